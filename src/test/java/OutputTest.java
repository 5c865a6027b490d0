/** Promises 50 to 52: output. */
public final class OutputTest {
    private static final Due due = new Due("OutputTest");

    public static void main(String[] args) {
        writePilot();
        writePilotExample();
        writePilotRefused();
        writeTask();
        outputAt();
        undoLeavesTheLine();
        due.finish();
    }

    private static void writePilot() {
        GlidingContest c = Fixture.withTask(20, 60);
        due.answer("the length", c.writePilot(1), 2);
        due.answer("waiting", Fixture.pilotLine(c, 1), "1-");
        c.launch(0);
        due.answer("launched", Fixture.pilotLine(c, 0), "0f10,10 1000m 1/3");
        due.answer("its length", c.writePilot(0), 17);
        Fixture.land(c, 0);
        due.answer("landed", Fixture.pilotLine(c, 0), "0l10,30 0m 1/3");
        c.addArea(20, 11, 20, 13);
        c.launch(1);
        c.fly(1, Fixture.WEST, 8);
        due.answer("one digit", Fixture.pilotLine(c, 1), "1f2,10 872m 1/3");
        c.fly(1, Fixture.EAST, 18);
        c.fly(1, Fixture.NORTH, 1);
        due.answer("penalty", Fixture.pilotLine(c, 1), "1f20,11 568m 2/3 -10");
        c.fly(1, Fixture.NORTH, 7);
        due.answer("finished", Fixture.pilotLine(c, 1), "1!20,18 456m 3/3 -30");
        c.endDay();
        due.answer("waiting again", Fixture.pilotLine(c, 1), "1-");
    }

    private static void writePilotExample() {
        GlidingContest c = new GlidingContest();
        c.addPoint(10, 27);
        c.addPoint(10, 28);
        c.addTaskPoint(0);
        c.addTaskPoint(1);
        c.addTaskPoint(0);
        c.addTaskPoint(1);
        c.addArea(10, 30, 10, 32);
        for (int i = 0; i < 3; i++) {
            c.addPilot(20);
        }
        c.addThermal(10, 34, 5);
        c.launch(2);
        c.fly(2, Fixture.NORTH, 7);
        c.setCloudBase(850);
        c.climb(2, 1);
        due.answer("the example of the document", Fixture.pilotLine(c, 2), "2f10,34 850m 2/4 -30");
    }

    private static void writePilotRefused() {
        GlidingContest c = Fixture.withTask(20);
        c.writeTask();
        for (int pilot : new int[] {-1, 1, 6, Integer.MAX_VALUE}) {
            due.thrown("writePilot " + pilot, Fixture.INDEX, () -> c.writePilot(pilot));
        }
        due.answer("the line stays", Fixture.line(c, 10), "0-10>1-8>2");
    }

    private static void writeTask() {
        GlidingContest c = new GlidingContest();
        due.answer("no task", c.writeTask(), 0);
        for (int[] at : new int[][] {{0, 0}, {60, 60}, {1, 1}, {0, 12}}) {
            c.addPoint(at[0], at[1]);
        }
        c.addTaskPoint(3);
        due.answer("one turn point", Fixture.taskLine(c), "3");
        due.answer("its length", c.writeTask(), 1);
        c.addTaskPoint(0);
        due.answer("two turn points", Fixture.taskLine(c), "3-12>0");
        c.addTaskPoint(1);
        c.addTaskPoint(0);
        c.addTaskPoint(2);
        c.addTaskPoint(1);
        due.answer("six turn points", Fixture.taskLine(c), "3-12>0-120>1-120>0-2>2-118>1");
        c.clearTask();
        due.answer("a cleared task", c.writeTask(), 0);
        c.addTaskPoint(1);
        c.addTaskPoint(3);
        due.answer("a new task", Fixture.taskLine(c), "1-108>3");
    }

    private static void outputAt() {
        GlidingContest c = Fixture.withTask(20);
        due.thrown("outputAt of a new line", Fixture.INDEX, () -> c.outputAt(0));
        int length = c.writeTask();
        due.answer("the length", length, 10);
        due.answer("the first", c.outputAt(0), '0');
        due.answer("the last", c.outputAt(9), '2');
        due.thrown("outputAt -1", Fixture.INDEX, () -> c.outputAt(-1));
        due.thrown("outputAt 10", Fixture.INDEX, () -> c.outputAt(10));
        due.thrown("a far index", Fixture.INDEX, () -> c.outputAt(Integer.MAX_VALUE));
        c.writePilot(0);
        due.answer("another line", c.outputAt(1), '-');
        due.thrown("its end", Fixture.INDEX, () -> c.outputAt(2));
        c.clearTask();
        due.answer("the line does not follow the task", c.outputAt(0), '0');
        c.writeTask();
        due.thrown("an empty line", Fixture.INDEX, () -> c.outputAt(0));
    }

    private static void undoLeavesTheLine() {
        GlidingContest c = Fixture.withTask(20);
        c.save();
        c.addTaskPoint(0);
        int length = c.writeTask();
        due.answer("writing is not a changing call", c.undo(), 7);
        due.answer("after undo", Fixture.line(c, length), "0-10>1-8>2-18>0");
        c.restore();
        due.answer("after restore", Fixture.line(c, length), "0-10>1-8>2-18>0");
        due.answer("a new line", Fixture.taskLine(c), "0-10>1-8>2");
    }
}
