/** The boundary cases of the promises 50 to 52: output. */
public final class OutputBoundaryTest {
    private static final int LEAST = Integer.MIN_VALUE;
    private static final int GREATEST = Integer.MAX_VALUE;

    public static void main(String[] args) {
        Promises.check(OutputBoundaryTest.class);
    }

    // ---- promise 50

    static void promise50_writePilot_index_noPilots(Due due) {
        GlidingContest c = new GlidingContest();
        due.index(() -> c.writePilot(0));
    }

    static void promise50_writePilot_index_tooSmall(Due due) {
        GlidingContest c = Fixture.withTask(20, 20);
        due.index(() -> c.writePilot(-1));
        due.index(() -> c.writePilot(LEAST));
    }

    static void promise50_writePilot_index_tooLarge(Due due) {
        GlidingContest c = Fixture.withTask(20, 20);
        due.index(() -> c.writePilot(2));
        due.index(() -> c.writePilot(GREATEST));
        GlidingContest six = Fixture.withTask(20, 20, 20, 20, 20, 20);
        due.index(() -> six.writePilot(6));
    }

    static void promise50_writePilot_kept_theLineOfBefore(Due due) {
        GlidingContest c = Fixture.withTask(20);
        c.writeTask();
        due.kept(c, () -> c.writePilot(1));
        due.is(Fixture.line(c, 10), "0-10>1-8>2");
    }

    static void promise50_writePilot_edge_waiting(Due due) {
        GlidingContest c = Fixture.withTask(20, 20, 20, 20, 20, 20);
        due.is(c.writePilot(0), 2);
        due.is(Fixture.pilotLine(c, 0), "0-");
        due.is(Fixture.pilotLine(c, 5), "5-");
        c.launch(5);
        Fixture.land(c, 5);
        c.endDay();
        due.is(Fixture.pilotLine(c, 5), "5-");
    }

    static void promise50_writePilot_edge_eachPhase(Due due) {
        GlidingContest c = Fixture.withTask(20, 20, 20);
        for (int pilot = 0; pilot < 3; pilot++) {
            c.launch(pilot);
        }
        Fixture.land(c, 1);
        Fixture.finish(c, 2);
        due.is(Fixture.pilotLine(c, 0), "0f10,10 1000m 1/3");
        due.is(Fixture.pilotLine(c, 1), "1l10,30 0m 1/3");
        due.is(Fixture.pilotLine(c, 2), "2!20,18 100m 3/3");
        due.is(c.writePilot(2), 16);
    }

    static void promise50_writePilot_edge_penaltyZeroIsNotWritten(Due due) {
        GlidingContest c = Fixture.withTask(20);
        c.addArea(11, 10, 11, 10);
        c.launch(0);
        due.is(Fixture.pilotLine(c, 0), "0f10,10 1000m 1/3");
        c.fly(0, Fixture.EAST, 1);
        due.is(Fixture.pilotLine(c, 0), "0f11,10 950m 1/3 -10");
        due.is(c.writePilot(0), 20);
    }

    static void promise50_writePilot_edge_coordinateZeroAndHeightZero(Due due) {
        GlidingContest c = new GlidingContest();
        Fixture.runText(c, "point 0 20;point 60 60;task 0;task 1;pilot 20;launch 0");
        c.fly(0, Fixture.SOUTH, 20);
        due.is(Fixture.pilotLine(c, 0), "0l0,0 0m 1/2");
    }

    static void promise50_writePilot_full_longestLine(Due due) {
        GlidingContest c = new GlidingContest();
        Fixture.runText(c, "point 60 60;point 60 59;task 0;task 1;task 0;task 1;task 0");
        c.addTaskPoint(1);
        for (int i = 0; i < 6; i++) {
            c.addPilot(20);
        }
        c.addArea(0, 0, 60, 60);
        c.addThermal(60, 60, 5);
        c.setCloudBase(3000);
        c.launch(5);
        c.climb(5, 30);
        for (int i = 0; i < 5; i++) {
            c.fly(5, Fixture.WEST, 1);
            c.fly(5, Fixture.EAST, 1);
        }
        c.climb(5, 30);
        due.is(Fixture.pilotLine(c, 5), "5f60,60 3000m 1/6 -100");
        due.is(c.writePilot(5), 22);
    }

    static void promise50_writePilot_edge_shorterLineReplacesTheLongerOne(Due due) {
        GlidingContest c = Fixture.withTask(20, 20);
        c.launch(0);
        due.is(c.writePilot(0), 17);
        due.is(c.writePilot(1), 2);
        due.index(() -> c.outputAt(2));
    }

    // ---- promise 51

    static void promise51_writeTask_empty_noTask(Due due) {
        GlidingContest c = new GlidingContest();
        due.is(c.writeTask(), 0);
        due.index(() -> c.outputAt(0));
    }

    static void promise51_writeTask_empty_replacesALine(Due due) {
        GlidingContest c = new GlidingContest();
        c.addPilot(20);
        c.writePilot(0);
        due.is(c.writeTask(), 0);
        due.index(() -> c.outputAt(0));
    }

    static void promise51_writeTask_empty_afterClearing(Due due) {
        GlidingContest c = Fixture.withTask();
        due.is(c.writeTask(), 10);
        c.clearTask();
        due.is(c.writeTask(), 0);
    }

    static void promise51_writeTask_edge_oneTurnPoint(Due due) {
        GlidingContest c = new GlidingContest();
        c.addPoint(1, 1);
        c.addTaskPoint(0);
        due.is(c.writeTask(), 1);
        due.is(Fixture.taskLine(c), "0");
    }

    static void promise51_writeTask_edge_twoTurnPoints(Due due) {
        GlidingContest c = new GlidingContest();
        c.addPoint(0, 12);
        c.addPoint(0, 0);
        c.addTaskPoint(0);
        c.addTaskPoint(1);
        due.is(Fixture.taskLine(c), "0-12>1");
        due.is(c.writeTask(), 6);
    }

    static void promise51_writeTask_full_sixWithTheLongestLegs(Due due) {
        GlidingContest c = new GlidingContest();
        for (int i = 0; i < 8; i++) {
            c.addPoint(i % 2 == 0 ? 0 : 60, i % 2 == 0 ? 0 : 60);
        }
        for (int point : new int[] {7, 0, 1, 2, 3, 6}) {
            c.addTaskPoint(point);
        }
        due.is(Fixture.taskLine(c), "7-120>0-120>1-120>2-120>3-120>6");
        due.is(c.writeTask(), 31);
    }

    // ---- promise 52

    static void promise52_outputAt_index_initiallyEmpty(Due due) {
        GlidingContest c = Fixture.withTask(20);
        due.index(() -> c.outputAt(0));
        due.index(() -> c.outputAt(-1));
    }

    static void promise52_outputAt_index_negative(Due due) {
        GlidingContest c = Fixture.withTask(20);
        c.writeTask();
        due.index(() -> c.outputAt(-1));
        due.index(() -> c.outputAt(LEAST));
    }

    static void promise52_outputAt_index_notLessThanTheLength(Due due) {
        GlidingContest c = Fixture.withTask(20);
        int length = c.writeTask();
        due.index(() -> c.outputAt(length));
        due.index(() -> c.outputAt(length + 1));
        due.index(() -> c.outputAt(256));
        due.index(() -> c.outputAt(GREATEST));
    }

    static void promise52_outputAt_edge_firstAndLast(Due due) {
        GlidingContest c = Fixture.withTask(20);
        int length = c.writeTask();
        due.is(c.outputAt(0), '0');
        due.is(c.outputAt(length - 1), '2');
    }

    static void promise52_outputAt_edge_theLineStaysUntilItIsWritten(Due due) {
        GlidingContest c = Fixture.withTask(20);
        c.save();
        int length = c.writeTask();
        c.clearTask();
        due.is(Fixture.line(c, length), "0-10>1-8>2");
        c.undo();
        due.is(Fixture.line(c, length), "0-10>1-8>2");
        c.restore();
        due.is(Fixture.line(c, length), "0-10>1-8>2");
        Fixture.runText(c, "point 1 1");
        due.is(Fixture.line(c, length), "0-10>1-8>2");
    }
}
