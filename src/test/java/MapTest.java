/** Promises 1 to 7: a new object, the map and the task. */
public final class MapTest {
    private static final Due due = new Due("MapTest");

    public static void main(String[] args) {
        newObject();
        addPoint();
        addTaskPoint();
        addTaskPointOrder();
        clearTask();
        addThermal();
        setCloudBase();
        addArea();
        due.finish();
    }

    private static void newObject() {
        GlidingContest c = new GlidingContest();
        due.answer("new pointCount", c.pointCount(), 0);
        due.answer("new taskLength", c.taskLength(), 0);
        due.answer("new pilotCount", c.pilotCount(), 0);
        due.answer("new cloudBase", c.cloudBase(), 1500);
        due.answer("new days", c.days(), 0);
        due.answer("new isPlanning", c.isPlanning(), true);
        for (int y = 0; y <= 60; y++) {
            due.answer("new restrictedInRow " + y, c.restrictedInRow(y), 0);
        }
        due.thrown("strongestThermal", Fixture.NO_ELEMENT, () -> c.strongestThermal(0, 0));
        due.thrown("undo", Fixture.STATE, c::undo);
        due.thrown("restore", Fixture.STATE, c::restore);
        due.answer("the first area", c.addArea(0, 0, 0, 0), 1);
        due.answer("the first thermal", c.addThermal(0, 0, 1), 1);
    }

    private static void addPoint() {
        GlidingContest c = new GlidingContest();
        int[][] wrong = {{-1, 0}, {0, -1}, {61, 0}, {0, 61},
            {Integer.MIN_VALUE, 5}, {5, Integer.MAX_VALUE}};
        for (int[] at : wrong) {
            due.thrown("addPoint " + at[0] + " " + at[1], Fixture.ARGUMENT,
                    () -> c.addPoint(at[0], at[1]));
        }
        due.answer("pointCount after refused ones", c.pointCount(), 0);
        due.answer("a corner", c.addPoint(0, 0), 0);
        due.answer("the far corner", c.addPoint(60, 60), 1);
        due.answer("distance of the corners", c.distance(0, 1), 120);
        for (int i = 2; i < 8; i++) {
            due.answer("addPoint", c.addPoint(7, i), i);
        }
        due.thrown("a ninth point", Fixture.STATE, () -> c.addPoint(1, 1));
        due.thrown("a ninth point out of range", Fixture.ARGUMENT, () -> c.addPoint(1, 61));
        due.answer("pointCount", c.pointCount(), 8);
        due.answer("undoable calls", Fixture.undoAll(c), 8);
        GlidingContest flying = Fixture.withTask(20);
        flying.launch(0);
        due.answer("addPoint after the planning phase", flying.addPoint(1, 2), 3);
    }

    private static void addTaskPoint() {
        GlidingContest c = new GlidingContest();
        due.thrown("addTaskPoint without points", Fixture.INDEX, () -> c.addTaskPoint(0));
        c.addPoint(5, 5);
        c.addPoint(5, 5);
        c.addPoint(5, 9);
        due.thrown("addTaskPoint -1", Fixture.INDEX, () -> c.addTaskPoint(-1));
        due.thrown("addTaskPoint 3", Fixture.INDEX, () -> c.addTaskPoint(3));
        due.answer("the start", c.addTaskPoint(0), 1);
        due.thrown("the same point", Fixture.UNSUPPORTED, () -> c.addTaskPoint(0));
        due.thrown("another point there", Fixture.UNSUPPORTED, () -> c.addTaskPoint(1));
        due.answer("taskLength", c.taskLength(), 1);
        due.answer("another position", c.addTaskPoint(2), 2);
        due.answer("back again", c.addTaskPoint(1), 3);
        due.answer("the first of the task", c.taskPoint(0), 0);
        due.answer("the second of the task", c.taskPoint(1), 2);
        due.answer("the third of the task", c.taskPoint(2), 1);
    }

    private static void addTaskPointOrder() {
        GlidingContest c = Fixture.withTask(20);
        due.answer("fourth", c.addTaskPoint(0), 4);
        due.answer("fifth", c.addTaskPoint(1), 5);
        due.answer("sixth", c.addTaskPoint(2), 6);
        due.thrown("a seventh", Fixture.STATE, () -> c.addTaskPoint(0));
        due.thrown("a seventh at the same position", Fixture.STATE, () -> c.addTaskPoint(2));
        due.thrown("a seventh without point", Fixture.INDEX, () -> c.addTaskPoint(3));
        due.answer("taskLength", c.taskLength(), 6);
        GlidingContest flying = Fixture.withTask(20);
        flying.launch(0);
        due.thrown("while flying", Fixture.STATE, () -> flying.addTaskPoint(0));
        due.thrown("while flying, same position", Fixture.STATE, () -> flying.addTaskPoint(2));
        due.thrown("while flying, no such point", Fixture.INDEX, () -> flying.addTaskPoint(9));
        Fixture.finish(flying, 0);
        due.thrown("with a finished pilot", Fixture.STATE, () -> flying.addTaskPoint(0));
        flying.endDay();
        due.answer("in the next planning phase", flying.addTaskPoint(0), 4);
    }

    private static void clearTask() {
        GlidingContest c = new GlidingContest();
        due.answer("clearTask of no task", c.clearTask(), 0);
        GlidingContest full = Fixture.withTask(20);
        due.answer("clearTask", full.clearTask(), 3);
        due.answer("taskLength after it", full.taskLength(), 0);
        due.answer("taskDistance after it", full.taskDistance(), 0);
        due.answer("pointCount after it", full.pointCount(), 3);
        due.answer("distance after it", full.distance(0, 2), 18);
        due.answer("a new start", full.addTaskPoint(2), 1);
        full.addTaskPoint(0);
        due.answer("taskDistance of a new task", full.taskDistance(), 18);
        full.launch(0);
        due.thrown("clearTask while flying", Fixture.STATE, full::clearTask);
        Fixture.land(full, 0);
        due.thrown("clearTask with a landed pilot", Fixture.STATE, full::clearTask);
        due.answer("taskLength after refused ones", full.taskLength(), 2);
        full.endDay();
        due.answer("clearTask after the day", full.clearTask(), 2);
    }

    private static void addThermal() {
        GlidingContest c = new GlidingContest();
        int[][] wrong = {{-1, 0, 1}, {61, 0, 1}, {0, -1, 1}, {0, 61, 1}, {0, 0, 0}, {0, 0, 6},
            {0, 0, -5}, {0, 0, Integer.MAX_VALUE}};
        for (int[] a : wrong) {
            due.thrown("addThermal " + a[0] + " " + a[1] + " " + a[2], Fixture.ARGUMENT,
                    () -> c.addThermal(a[0], a[1], a[2]));
        }
        due.answer("addThermal", c.addThermal(0, 60, 5), 1);
        due.answer("strength 1", c.addThermal(60, 0, 1), 2);
        due.answer("its strength", c.strongestThermal(60, 0), 1);
        due.answer("the strength of the first", c.strongestThermal(0, 60), 5);
        for (int i = 3; i <= 6; i++) {
            due.answer("addThermal", c.addThermal(30, 30, 2), i);
        }
        due.thrown("a seventh", Fixture.STATE, () -> c.addThermal(1, 1, 1));
        due.thrown("a seventh out of range", Fixture.ARGUMENT, () -> c.addThermal(1, 1, 6));
        due.answer("undoable calls", Fixture.undoAll(c), 6);
        GlidingContest flying = Fixture.withTask(20);
        flying.launch(0);
        flying.addThermal(10, 10, 3);
        due.answer("addThermal while flying", flying.strongestThermal(10, 10), 3);
    }

    private static void setCloudBase() {
        GlidingContest c = Fixture.withTask(20);
        for (int wrong : new int[] {499, 3001, 0, -1, Integer.MIN_VALUE, Integer.MAX_VALUE}) {
            due.thrown("setCloudBase " + wrong, Fixture.ARGUMENT, () -> c.setCloudBase(wrong));
        }
        due.answer("cloudBase after refused ones", c.cloudBase(), 1500);
        due.answer("setCloudBase 500", c.setCloudBase(500), 1500);
        due.answer("setCloudBase 3000", c.setCloudBase(3000), 500);
        c.launch(0);
        due.answer("setCloudBase while flying", c.setCloudBase(600), 3000);
        due.answer("cloudBase", c.cloudBase(), 600);
        due.answer("the height stays", c.height(0), 1000);
    }

    private static void addArea() {
        GlidingContest c = new GlidingContest();
        int[][] wrong = {{-1, 0, 5, 5}, {61, 0, 61, 5}, {0, -1, 5, 5}, {0, 61, 5, 61},
            {5, 5, 4, 6}, {0, 0, 61, 0}, {5, 5, 6, 4}, {0, 0, 0, 61},
            {-5, -5, -3, -3}, {0, 0, Integer.MAX_VALUE, Integer.MAX_VALUE}};
        for (int[] a : wrong) {
            due.thrown("addArea " + java.util.Arrays.toString(a), Fixture.ARGUMENT,
                    () -> c.addArea(a[0], a[1], a[2], a[3]));
        }
        due.answer("no area", c.isRestricted(5, 5), false);
        due.answer("one position", c.addArea(60, 60, 60, 60), 1);
        due.answer("the whole map", c.addArea(0, 0, 60, 60), 2);
        due.answer("the same again", c.addArea(0, 0, 60, 60), 3);
        due.thrown("a fourth", Fixture.STATE, () -> c.addArea(0, 0, 1, 1));
        due.thrown("a fourth out of range", Fixture.ARGUMENT, () -> c.addArea(1, 0, 0, 1));
        due.answer("undoable calls", Fixture.undoAll(c), 3);
        GlidingContest flying = Fixture.withTask(20);
        flying.launch(0);
        due.answer("addArea while flying", flying.addArea(10, 11, 10, 12), 1);
        flying.fly(0, Fixture.NORTH, 3);
        due.answer("its penalty", flying.penalty(0), 20);
    }
}
