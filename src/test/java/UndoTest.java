/** Promises 53 to 55: undo and snapshot. */
public final class UndoTest {
    private static final Due due = new Due("UndoTest");

    public static void main(String[] args) {
        undoNothing();
        undoEach();
        undoFlights();
        undoAtMostEight();
        undoWithoutDifference();
        undoRun();
        refusedCallsAreNotUndone();
        save();
        restore();
        saveAndUndo();
        restoreOverOtherMap();
        undoOverOtherTask();
        due.finish();
    }

    private static void undoNothing() {
        GlidingContest c = new GlidingContest();
        due.thrown("undo of a new object", Fixture.STATE, c::undo);
        c.addPilot(20);
        due.answer("the only call", c.undo(), 0);
        due.thrown("undo again", Fixture.STATE, c::undo);
        due.answer("pilotCount", c.pilotCount(), 0);
    }

    private static void undoEach() {
        GlidingContest c = new GlidingContest();
        c.addPoint(1, 1);
        c.addPoint(2, 2);
        c.addTaskPoint(0);
        c.addThermal(5, 5, 5);
        c.setCloudBase(900);
        c.addArea(7, 7, 8, 8);
        c.addPilot(44);
        c.clearTask();
        due.answer("undo clearTask", c.undo(), 7);
        due.answer("taskLength", c.taskLength(), 1);
        due.answer("taskPoint", c.taskPoint(0), 0);
        due.answer("undo addPilot", c.undo(), 6);
        due.answer("pilotCount", c.pilotCount(), 0);
        due.answer("undo addArea", c.undo(), 5);
        due.answer("isRestricted", c.isRestricted(7, 7), false);
        due.answer("undo setCloudBase", c.undo(), 4);
        due.answer("cloudBase", c.cloudBase(), 1500);
        due.answer("undo addThermal", c.undo(), 3);
        due.thrown("strongestThermal", Fixture.NO_ELEMENT, () -> c.strongestThermal(5, 5));
        due.answer("undo addTaskPoint", c.undo(), 2);
        due.answer("taskLength", c.taskLength(), 0);
        due.answer("undo addPoint", c.undo(), 1);
        due.answer("pointCount", c.pointCount(), 1);
        due.answer("another second point", c.addPoint(9, 1), 1);
        due.answer("its distance", c.distance(0, 1), 8);
        due.answer("undo it", c.undo(), 1);
        due.answer("undo the first", c.undo(), 0);
        due.answer("pointCount", c.pointCount(), 0);
    }

    private static void undoFlights() {
        GlidingContest c = Fixture.withTask(60, 20);
        c.addThermal(10, 10, 1);
        c.addArea(11, 10, 11, 10);
        c.launch(0);
        c.climb(0, 2);
        c.fly(0, Fixture.EAST, 10);
        c.fly(0, Fixture.NORTH, 8);
        c.endDay();
        due.answer("total", c.total(0), 1490L);
        c.undo();
        due.answer("undo endDay", Fixture.pilotLine(c, 0), "0!20,18 832m 3/3 -10");
        due.answer("total", c.total(0), 0L);
        due.answer("days", c.days(), 0);
        due.answer("minutes", c.minutes(0), 20);
        c.undo();
        due.answer("undo the finish", Fixture.pilotLine(c, 0), "0f20,10 960m 2/3 -10");
        c.undo();
        due.answer("undo the leg", Fixture.pilotLine(c, 0), "0f10,10 1120m 1/3");
        due.answer("minutes", c.minutes(0), 2);
        c.undo();
        due.answer("undo climb", Fixture.pilotLine(c, 0), "0f10,10 1000m 1/3");
        due.answer("minutes", c.minutes(0), 0);
        c.undo();
        due.answer("undo launch", Fixture.pilotLine(c, 0), "0-");
        due.answer("isPlanning", c.isPlanning(), true);
        due.answer("undo addArea", c.undo(), 2);
        due.answer("undo addThermal", c.undo(), 1);
        due.answer("undo addPilot", c.undo(), 0);
        due.answer("pilotCount", c.pilotCount(), 1);
    }

    private static void undoAtMostEight() {
        GlidingContest c = new GlidingContest();
        for (int i = 0; i < 20; i++) {
            c.setCloudBase(1000 + i);
        }
        for (int left = 7; left >= 0; left--) {
            due.answer("undo", c.undo(), left);
            due.answer("cloudBase", c.cloudBase(), 1011 + left);
        }
        due.thrown("a ninth undo", Fixture.STATE, c::undo);
        due.answer("cloudBase", c.cloudBase(), 1011);
        for (int i = 0; i < 7; i++) {
            c.setCloudBase(2000 + i);
        }
        due.answer("7 calls", c.undo(), 6);
        c.setCloudBase(2500);
        c.setCloudBase(2600);
        c.setCloudBase(2700);
        due.answer("undo of the newest", c.undo(), 7);
        due.answer("cloudBase", c.cloudBase(), 2600);
        due.answer("undo all", Fixture.undoAll(c), 7);
        due.answer("the oldest that is left", c.cloudBase(), 2000);
    }

    private static void undoWithoutDifference() {
        GlidingContest c = new GlidingContest();
        c.clearTask();
        c.setCloudBase(1500);
        c.clearTask();
        due.answer("three calls without difference", Fixture.undoAll(c), 3);
    }

    private static void undoRun() {
        GlidingContest c = new GlidingContest();
        c.addPilot(30);
        Fixture.runText(c, "point 1 1;point 2 2;task 0;task 1;launch 0");
        Fixture.runText(c, "fly 0 e1");
        due.answer("undo a short program", c.undo(), 2);
        due.answer("the pilot", Fixture.pilotLine(c, 0), "0f1,1 1000m 1/2");
        due.answer("undo the whole program", c.undo(), 1);
        due.answer("pointCount", c.pointCount(), 0);
        due.answer("taskLength", c.taskLength(), 0);
        due.answer("the pilot waits", Fixture.pilotLine(c, 0), "0-");
        for (int i = 0; i < 10; i++) {
            Fixture.runText(c, "point 1 1;point 1 1");
            due.answer("a program is one call", c.undo(), 1);
        }
        for (int i = 0; i < 8; i++) {
            Fixture.runText(c, "point 1 1");
        }
        due.answer("eight programs", Fixture.undoAll(c), 8);
        due.answer("the pilot stays", c.pilotCount(), 1);
    }

    private static void refusedCallsAreNotUndone() {
        GlidingContest c = Fixture.withTask(20);
        for (int i = 0; i < 9; i++) {
            c.setCloudBase(1000 + i);
        }
        due.thrown("addPoint", Fixture.ARGUMENT, () -> c.addPoint(61, 0));
        due.thrown("addTaskPoint", Fixture.INDEX, () -> c.addTaskPoint(9));
        due.thrown("addThermal", Fixture.ARGUMENT, () -> c.addThermal(0, 0, 9));
        due.thrown("setCloudBase", Fixture.ARGUMENT, () -> c.setCloudBase(9));
        due.thrown("addArea", Fixture.ARGUMENT, () -> c.addArea(9, 9, 8, 8));
        due.thrown("addPilot", Fixture.ARGUMENT, () -> c.addPilot(9));
        due.thrown("launch", Fixture.INDEX, () -> c.launch(9));
        due.thrown("fly", Fixture.STATE, () -> c.fly(0, 0, 1));
        due.thrown("climb", Fixture.STATE, () -> c.climb(0, 1));
        due.thrown("endDay", Fixture.STATE, c::endDay);
        due.thrown("run of no program", Fixture.ARGUMENT, c::run);
        due.thrown("run of a failing one", Fixture.UNSUPPORTED,
                () -> Fixture.runText(c, "point 1 1;pilot 20;end"));
        due.answer("the eight calls before them", c.undo(), 7);
        due.answer("cloudBase", c.cloudBase(), 1007);
        due.answer("all of them", Fixture.undoAll(c), 7);
        due.answer("cloudBase before them", c.cloudBase(), 1000);
    }

    private static void save() {
        GlidingContest c = Fixture.withTask(20);
        c.save();
        due.answer("saving cannot be undone", c.undo(), 6);
        due.answer("pilotCount", c.pilotCount(), 0);
        c.restore();
        due.answer("pilotCount", c.pilotCount(), 1);
        c.launch(0);
        c.save();
        c.fly(0, Fixture.EAST, 3);
        c.restore();
        due.answer("the newer state", Fixture.pilotLine(c, 0), "0f10,10 1000m 1/3");
        Fixture.finish(c, 0);
        c.endDay();
        c.save();
        c.addPoint(0, 0);
        c.setCloudBase(3000);
        c.addArea(0, 0, 1, 1);
        c.addThermal(0, 0, 1);
        c.clearTask();
        c.restore();
        due.answer("days", c.days(), 1);
        due.answer("total", c.total(0), 1500L);
        due.answer("pointCount", c.pointCount(), 3);
        due.answer("cloudBase", c.cloudBase(), 1500);
        due.answer("isRestricted", c.isRestricted(0, 0), false);
        due.thrown("strongestThermal", Fixture.NO_ELEMENT, () -> c.strongestThermal(0, 0));
        due.answer("the task", Fixture.taskLine(c), "0-10>1-8>2");
    }

    private static void restore() {
        GlidingContest c = Fixture.withTask(20);
        due.thrown("restore without save", Fixture.STATE, c::restore);
        due.answer("it leaves the calls", c.undo(), 6);
        c.save();
        c.addPilot(30);
        c.restore();
        due.answer("pilotCount", c.pilotCount(), 0);
        due.thrown("undo after restore", Fixture.STATE, c::undo);
        c.addPilot(40);
        c.addPilot(50);
        due.answer("new calls can be undone", c.undo(), 1);
        c.restore();
        due.answer("the saved state stays saved", c.pilotCount(), 0);
        due.thrown("undo after a second restore", Fixture.STATE, c::undo);
        c.addPoint(4, 4);
        c.restore();
        due.answer("and a third time", c.pointCount(), 3);
    }

    private static void saveAndUndo() {
        GlidingContest c = new GlidingContest();
        c.save();
        c.addPilot(20);
        c.undo();
        c.addPilot(30);
        c.restore();
        due.answer("a new state was saved", c.pilotCount(), 0);
        c.addPilot(40);
        c.save();
        due.answer("undo across save", c.undo(), 0);
        due.answer("pilotCount", c.pilotCount(), 0);
        c.restore();
        due.answer("undo leaves what is saved", c.pilotCount(), 1);
        due.answer("its sink", c.sink(0), 25);
    }

    private static void undoTimes(GlidingContest c, int times) {
        for (int i = 0; i < times; i++) {
            c.undo();
        }
    }

    /** As many turn points, thermals and areas as were saved, but others. */
    private static void restoreOverOtherMap() {
        GlidingContest c = new GlidingContest();
        Fixture.runText(c, "point 3 40;point 10 4;task 0;task 1;task 0;pilot 20");
        c.addThermal(20, 30, 4);
        c.addArea(5, 6, 7, 8);
        c.save();
        undoTimes(c, 3);
        Fixture.runText(c, "point 50 50;point 51 50;task 1;task 0;task 1;pilot 60");
        c.addThermal(44, 45, 2);
        c.addArea(15, 16, 17, 18);
        due.answer("the other task", Fixture.taskLine(c), "1-1>0-1>1");
        c.restore();
        due.answer("the saved task", Fixture.taskLine(c), "0-43>1-43>0");
        due.answer("the distance", c.distance(0, 1), 43);
        due.answer("the sink", c.sink(0), 50);
        due.answer("the thermal", c.strongestThermal(20, 30), 4);
        due.thrown("the other thermal", Fixture.NO_ELEMENT, () -> c.strongestThermal(44, 45));
        due.answer("the area", c.isRestricted(5, 6) && c.isRestricted(7, 8), true);
        due.answer("its row", c.restrictedInRow(7), 3);
        due.answer("above it", c.restrictedInRow(9), 0);
        due.answer("the other area", c.isRestricted(16, 17), false);
        c.launch(0);
        due.answer("the start", Fixture.pilotLine(c, 0), "0f3,40 1000m 1/3");
    }

    private static void undoOverOtherTask() {
        GlidingContest c = Fixture.withTask(20);
        c.clearTask();
        c.addTaskPoint(2);
        c.addTaskPoint(0);
        c.addTaskPoint(2);
        due.answer("the new task", Fixture.taskLine(c), "2-18>0-18>2");
        undoTimes(c, 4);
        due.answer("the old task", Fixture.taskLine(c), "0-10>1-8>2");
        due.answer("its distance", c.taskDistance(), 18);
    }
}
