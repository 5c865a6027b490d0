import java.util.function.Consumer;

/** The boundary cases of the promises 53 to 55: undo and snapshot. */
public final class UndoBoundaryTest {
    public static void main(String[] args) {
        Promises.check(UndoBoundaryTest.class);
    }

    /** The cloud base is 1000 after the first call, 1001 after the second, and so on. */
    private static GlidingContest afterCalls(int count) {
        GlidingContest c = new GlidingContest();
        for (int i = 0; i < count; i++) {
            c.setCloudBase(1000 + i);
        }
        return c;
    }

    private static GlidingContest flying() {
        GlidingContest c = Fixture.withTask(20, 30);
        c.addThermal(10, 10, 1);
        c.addArea(0, 0, 60, 10);
        c.launch(0);
        return c;
    }

    private static GlidingContest finished() {
        GlidingContest c = flying();
        Fixture.finish(c, 0);
        return c;
    }

    /** The call changes something, one call more can be undone, and undo brings all back. */
    private static void undone(Due due, GlidingContest c, Consumer<GlidingContest> call) {
        String before = View.of(c);
        call.accept(c);
        due.is(View.of(c).equals(before), false);
        due.is(c.undo(), 7);
        due.is(View.of(c), before);
    }

    // ---- promise 53: how many calls

    static void promise53_undo_state_newObject(Due due) {
        due.state(new GlidingContest()::undo);
    }

    static void promise53_undo_state_allUndone(Due due) {
        GlidingContest c = afterCalls(1);
        due.is(c.undo(), 0);
        due.state(c::undo);
        due.is(c.cloudBase(), 1500);
    }

    static void promise53_undo_full_eightCalls(Due due) {
        GlidingContest c = afterCalls(8);
        for (int left = 7; left >= 1; left--) {
            due.is(c.undo(), left);
            due.is(c.cloudBase(), 999 + left);
        }
        due.is(c.undo(), 0);
        due.is(c.cloudBase(), 1500);
    }

    static void promise53_undo_state_ninthCallBack(Due due) {
        GlidingContest c = afterCalls(9);
        for (int left = 7; left >= 0; left--) {
            due.is(c.undo(), left);
        }
        due.is(c.cloudBase(), 1000);
        due.state(c::undo);
        due.is(c.cloudBase(), 1000);
    }

    static void promise53_undo_full_manyCalls(Due due) {
        GlidingContest c = afterCalls(300);
        due.is(c.undo(), 7);
        due.is(c.cloudBase(), 1298);
        due.is(Fixture.undoAll(c), 7);
        due.is(c.cloudBase(), 1291);
    }

    static void promise53_undo_edge_anUndoneCallIsGone(Due due) {
        GlidingContest c = afterCalls(10);
        due.is(c.undo(), 7);
        due.is(c.undo(), 6);
        c.setCloudBase(2000);
        due.is(c.undo(), 6);
        due.is(c.cloudBase(), 1007);
        due.is(Fixture.undoAll(c), 6);
        due.is(c.cloudBase(), 1001);
    }

    static void promise53_undo_kept_nothingToUndo(Due due) {
        GlidingContest c = finished();
        Fixture.undoAll(c);
        due.kept(c, c::undo);
    }

    // ---- promise 53: which calls

    static void promise53_undo_edge_addPoint(Due due) {
        undone(due, finished(), c -> c.addPoint(1, 1));
    }

    static void promise53_undo_edge_addTaskPoint(Due due) {
        GlidingContest c = finished();
        c.endDay();
        undone(due, c, day -> day.addTaskPoint(0));
    }

    static void promise53_undo_edge_clearTask(Due due) {
        GlidingContest c = finished();
        c.endDay();
        undone(due, c, GlidingContest::clearTask);
    }

    static void promise53_undo_edge_addThermal(Due due) {
        undone(due, finished(), c -> c.addThermal(60, 60, 1));
    }

    static void promise53_undo_edge_setCloudBase(Due due) {
        undone(due, finished(), c -> c.setCloudBase(3000));
    }

    static void promise53_undo_edge_addArea(Due due) {
        undone(due, finished(), c -> c.addArea(0, 60, 60, 60));
    }

    static void promise53_undo_edge_addPilot(Due due) {
        undone(due, finished(), c -> c.addPilot(40));
    }

    static void promise53_undo_edge_launch(Due due) {
        undone(due, finished(), c -> c.launch(1));
    }

    static void promise53_undo_edge_fly(Due due) {
        undone(due, flying(), c -> c.fly(0, Fixture.EAST, 10));
        undone(due, flying(), c -> c.fly(0, Fixture.NORTH, 20));
    }

    static void promise53_undo_edge_climb(Due due) {
        undone(due, flying(), c -> c.climb(0, 30));
    }

    static void promise53_undo_edge_endDay(Due due) {
        undone(due, finished(), GlidingContest::endDay);
    }

    static void promise53_undo_edge_runIsOneCall(Due due) {
        GlidingContest c = finished();
        Fixture.type(c, "end;point 1 1;area 0 60 60 60;pilot 20;launch 2;fly 2 e9");
        undone(due, c, GlidingContest::run);
    }

    static void promise53_undo_edge_otherTaskOfTheSameLength(Due due) {
        GlidingContest c = Fixture.withTask(20);
        String before = View.of(c);
        c.clearTask();
        c.addTaskPoint(2);
        c.addTaskPoint(0);
        c.addTaskPoint(2);
        due.is(Fixture.taskLine(c), "2-18>0-18>2");
        for (int left = 7; left >= 4; left--) {
            due.is(c.undo(), left);
        }
        due.is(Fixture.taskLine(c), "0-10>1-8>2");
        due.is(View.of(c).startsWith(before), true);
    }

    static void promise53_undo_edge_callsWithoutDifference(Due due) {
        GlidingContest c = new GlidingContest();
        c.clearTask();
        c.setCloudBase(1500);
        c.clearTask();
        due.is(c.undo(), 2);
        due.is(c.undo(), 1);
        due.is(c.undo(), 0);
        due.state(c::undo);
    }

    static void promise53_undo_edge_otherCallsAreNotUndone(Due due) {
        GlidingContest c = afterCalls(2);
        c.append('x');
        due.argument(c::run);
        c.writeTask();
        c.save();
        c.isConsistent();
        due.argument(() -> c.setCloudBase(0));
        due.is(c.undo(), 1);
        due.is(c.cloudBase(), 1000);
    }

    static void promise53_undo_edge_aFailedProgramIsNotUndone(Due due) {
        GlidingContest c = afterCalls(9);
        Fixture.type(c, "pilot 20;end");
        due.unsupported(c::run);
        due.is(c.undo(), 7);
        due.is(c.cloudBase(), 1007);
        due.is(Fixture.undoAll(c), 7);
        due.is(c.cloudBase(), 1000);
    }

    // ---- promise 53: what stays

    static void promise53_undo_edge_textBufferStays(Due due) {
        GlidingContest c = afterCalls(1);
        Fixture.type(c, "pilot 2");
        c.undo();
        due.is(c.append('0'), 8);
        due.is(c.run(), 1);
        c.undo();
        due.is(c.append('x'), 1);
    }

    static void promise53_undo_edge_storedPositionsStay(Due due) {
        GlidingContest c = afterCalls(1);
        Fixture.type(c, "pilot 20;end");
        due.unsupported(c::run);
        Fixture.type(c, "en");
        due.argument(c::run);
        c.undo();
        due.is(c.failedCommand(), 1);
        due.is(c.errorPosition(), 2);
    }

    static void promise53_undo_edge_outputLineStays(Due due) {
        GlidingContest c = Fixture.withTask(20);
        c.writePilot(0);
        c.undo();
        due.is(Fixture.line(c, 2), "0-");
        due.index(() -> c.outputAt(2));
    }

    static void promise53_undo_edge_savedStateStays(Due due) {
        GlidingContest c = afterCalls(2);
        c.save();
        c.undo();
        due.is(c.cloudBase(), 1000);
        c.restore();
        due.is(c.cloudBase(), 1001);
    }

    // ---- promise 54

    static void promise54_save_edge_isNotAChangingCall(Due due) {
        GlidingContest c = new GlidingContest();
        c.save();
        due.state(c::undo);
        c.setCloudBase(700);
        c.save();
        due.is(c.undo(), 0);
        due.is(c.cloudBase(), 1500);
    }

    static void promise54_save_empty_newObject(Due due) {
        GlidingContest c = new GlidingContest();
        String before = View.of(c);
        c.save();
        Fixture.runText(c, "point 1 1;task 0;thermal 0 0 1;area 0 0 60 60;pilot 20");
        c.restore();
        due.is(View.of(c), before);
        due.is(c.addThermal(0, 0, 1), 1);
        due.is(c.addArea(0, 0, 0, 0), 1);
    }

    static void promise54_save_edge_laterChangesAreNotSaved(Due due) {
        GlidingContest c = flying();
        c.save();
        String before = View.of(c);
        Fixture.finish(c, 0);
        c.endDay();
        c.clearTask();
        c.addPilot(60);
        c.restore();
        due.is(View.of(c), before);
    }

    static void promise54_save_edge_replacesTheSavedState(Due due) {
        GlidingContest c = finished();
        c.save();
        c.endDay();
        c.setCloudBase(600);
        c.save();
        String before = View.of(c);
        c.launch(1);
        c.restore();
        due.is(View.of(c), before);
        due.is(c.total(0), 1500L - 100);
        due.is(c.days(), 1);
    }

    static void promise54_save_full_allThatCanBeSaved(Due due) {
        GlidingContest c = Fixture.withTask(20, 30, 40, 50, 60, 20);
        for (int i = 0; i < 6; i++) {
            c.addThermal(10 * i, 10 * i, 1 + i % 5);
        }
        for (int i = 0; i < 3; i++) {
            c.addTaskPoint(i);
            c.addArea(i, i, 10 + i, 10 + i);
        }
        for (int i = 3; i < 8; i++) {
            c.addPoint(i, 30);
        }
        c.setCloudBase(2999);
        for (int pilot = 0; pilot < 6; pilot++) {
            c.launch(pilot);
            c.fly(pilot, pilot % 4, 1 + pilot);
        }
        c.save();
        String before = View.of(c);
        for (int i = 0; i < 8; i++) {
            c.undo();
        }
        c.setCloudBase(500);
        due.is(View.of(c).equals(before), false);
        c.restore();
        due.is(View.of(c), before);
        due.state(() -> c.addThermal(0, 0, 1));
        due.state(() -> c.addArea(0, 0, 0, 0));
    }

    // ---- promise 55

    static void promise55_restore_state_nothingSaved(Due due) {
        due.state(new GlidingContest()::restore);
        GlidingContest c = finished();
        due.state(c::restore);
    }

    static void promise55_restore_kept_nothingSaved(Due due) {
        GlidingContest c = finished();
        due.kept(c, c::restore);
        due.is(c.undo(), 7);
        due.is(c.isFlying(0), true);
    }

    static void promise55_restore_edge_staysSaved(Due due) {
        GlidingContest c = afterCalls(1);
        c.save();
        for (int i = 0; i < 3; i++) {
            c.setCloudBase(2000);
            c.restore();
            due.is(c.cloudBase(), 1000);
        }
    }

    static void promise55_restore_edge_savedStateIsNoPartOfThePresentOne(Due due) {
        GlidingContest c = afterCalls(1);
        c.addPilot(20);
        c.save();
        c.restore();
        c.addPilot(30);
        c.addPoint(1, 1);
        c.restore();
        due.is(c.pilotCount(), 1);
        due.is(c.pointCount(), 0);
    }

    /** Two maps and tasks of the same size, each typed with one call. */
    private static void mapOfOneKind(GlidingContest c) {
        Fixture.runText(c, "point 1 2;point 3 9;task 0;task 1;thermal 1 1 4;area 1 0 3 5");
    }

    private static void mapOfTheOtherKind(GlidingContest c) {
        Fixture.runText(c, "point 9 5;point 2 2;task 1;task 0;thermal 9 9 2;area 0 6 9 7");
    }

    static void promise55_restore_edge_otherMapOfTheSameSize(Due due) {
        GlidingContest c = new GlidingContest();
        mapOfOneKind(c);
        c.addPilot(20);
        c.save();
        String before = View.of(c);
        c.undo();
        c.undo();
        mapOfTheOtherKind(c);
        c.addPilot(60);
        due.is(View.of(c).equals(before), false);
        c.restore();
        due.is(View.of(c), before);
    }

    static void promise55_restore_empty_nothingCanBeUndone(Due due) {
        GlidingContest c = afterCalls(9);
        c.save();
        c.setCloudBase(700);
        c.restore();
        due.state(c::undo);
        due.is(c.cloudBase(), 1008);
        c.setCloudBase(800);
        due.is(c.undo(), 0);
        due.is(c.cloudBase(), 1008);
        due.state(c::undo);
    }

    static void promise55_restore_empty_evenIfNothingIsDifferent(Due due) {
        GlidingContest c = afterCalls(3);
        c.save();
        c.restore();
        due.state(c::undo);
    }

    static void promise55_restore_edge_isNotAChangingCall(Due due) {
        GlidingContest c = new GlidingContest();
        c.save();
        c.restore();
        c.restore();
        due.state(c::undo);
    }

    static void promise55_restore_edge_textBufferStays(Due due) {
        GlidingContest c = afterCalls(1);
        Fixture.type(c, "pilot");
        c.save();
        Fixture.type(c, " 2");
        c.restore();
        due.is(c.append('0'), 8);
        due.is(c.run(), 1);
    }

    static void promise55_restore_edge_storedPositionsStay(Due due) {
        GlidingContest c = afterCalls(1);
        c.save();
        Fixture.type(c, "pilot 20;end");
        due.unsupported(c::run);
        Fixture.type(c, "en");
        due.argument(c::run);
        c.restore();
        due.is(c.failedCommand(), 1);
        due.is(c.errorPosition(), 2);
    }

    static void promise55_restore_edge_outputLineStays(Due due) {
        GlidingContest c = Fixture.withTask(20);
        c.writeTask();
        c.save();
        c.writePilot(0);
        c.restore();
        due.is(Fixture.line(c, 2), "0-");
        due.index(() -> c.outputAt(2));
    }
}
