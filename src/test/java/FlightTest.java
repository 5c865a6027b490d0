/** Promises 8 to 12: pilots and flights. */
public final class FlightTest {
    private static final Due due = new Due("FlightTest");

    public static void main(String[] args) {
        addPilot();
        launch();
        launchRefused();
        flyDirections();
        flyUntilLanded();
        flyThroughTask();
        flyFinishAtHeightZero();
        flyPenalty();
        flyRefused();
        climb();
        climbAboveBase();
        climbRefused();
        endDay();
        endDayOfSix();
        endDayRefused();
        due.finish();
    }

    private static void addPilot() {
        GlidingContest c = new GlidingContest();
        for (int wrong : new int[] {19, 61, 0, -20, Integer.MIN_VALUE, Integer.MAX_VALUE}) {
            due.thrown("addPilot " + wrong, Fixture.ARGUMENT, () -> c.addPilot(wrong));
        }
        due.answer("addPilot 20", c.addPilot(20), 0);
        due.answer("addPilot 60", c.addPilot(60), 1);
        due.answer("it waits", c.isFlying(1) || c.isLanded(1) || c.isFinished(1), false);
        due.answer("its total", c.total(1), 0L);
        for (int i = 2; i < 6; i++) {
            due.answer("addPilot", c.addPilot(30 + i), i);
        }
        due.thrown("a seventh", Fixture.STATE, () -> c.addPilot(30));
        due.thrown("a seventh out of range", Fixture.ARGUMENT, () -> c.addPilot(61));
        due.answer("pilotCount", c.pilotCount(), 6);
        due.answer("undoable calls", Fixture.undoAll(c), 6);
        GlidingContest flying = Fixture.withTask(20);
        flying.launch(0);
        due.answer("addPilot while flying", flying.addPilot(20), 1);
        due.answer("the new one waits", flying.isFlying(1), false);
    }

    private static void launch() {
        GlidingContest c = Fixture.withTask(20, 30, 40);
        due.answer("launch", c.launch(2), 1);
        due.answer("a second launch", c.launch(0), 2);
        due.answer("isFlying", c.isFlying(2), true);
        due.answer("x", c.x(2), 10);
        due.answer("y", c.y(2), 10);
        due.answer("height", c.height(2), 1000);
        due.answer("minutes", c.minutes(2), 0);
        due.answer("penalty", c.penalty(2), 0);
        due.answer("reached", c.reached(2), 1);
        Fixture.land(c, 0);
        due.answer("a landed one is not counted", c.launch(1), 2);
        Fixture.land(c, 1);
        Fixture.finish(c, 2);
        c.endDay();
        c.addArea(10, 10, 10, 10);
        c.setCloudBase(500);
        due.answer("launch on the next day", c.launch(1), 1);
        due.answer("all is new", Fixture.pilotLine(c, 1), "1f10,10 1000m 1/3");
        due.answer("minutes are new", c.minutes(1), 0);
    }

    private static void launchRefused() {
        GlidingContest c = new GlidingContest();
        due.thrown("launch without pilots", Fixture.INDEX, () -> c.launch(0));
        c.addPilot(20);
        due.thrown("launch -1", Fixture.INDEX, () -> c.launch(-1));
        due.thrown("launch 1", Fixture.INDEX, () -> c.launch(1));
        due.thrown("launch without task", Fixture.UNSUPPORTED, () -> c.launch(0));
        c.addPoint(1, 1);
        c.addPoint(2, 1);
        c.addTaskPoint(0);
        due.thrown("launch with one turn point", Fixture.UNSUPPORTED, () -> c.launch(0));
        c.addTaskPoint(1);
        due.answer("launch with two", c.launch(0), 1);
        due.thrown("launch of a flying one", Fixture.STATE, () -> c.launch(0));
        c.fly(0, Fixture.EAST, 1);
        due.answer("finished", c.isFinished(0), true);
        due.thrown("launch of a finished one", Fixture.STATE, () -> c.launch(0));
        GlidingContest landed = Fixture.withTask(20);
        landed.launch(0);
        Fixture.land(landed, 0);
        due.thrown("launch of a landed one", Fixture.STATE, () -> landed.launch(0));
    }

    private static void flyDirections() {
        int[][] ways = {{0, 10, 13}, {1, 13, 10}, {2, 10, 7}, {3, 7, 10}};
        for (int[] way : ways) {
            GlidingContest c = Fixture.withTask(30);
            c.launch(0);
            due.answer("fly " + way[0], c.fly(0, way[0], 3), 3);
            due.answer("x after " + way[0], c.x(0), way[1]);
            due.answer("y after " + way[0], c.y(0), way[2]);
            due.answer("height after " + way[0], c.height(0), 1000 - 3 * 33);
            due.answer("minutes after " + way[0], c.minutes(0), 3);
        }
    }

    private static void flyUntilLanded() {
        GlidingContest c = Fixture.withTask(20);
        c.launch(0);
        due.answer("19 kilometres", c.fly(0, Fixture.NORTH, 19), 19);
        due.answer("still flying", c.isFlying(0), true);
        due.answer("height 50", c.height(0), 50);
        due.answer("the last kilometre of five", c.fly(0, Fixture.NORTH, 5), 1);
        due.answer("landed", c.isLanded(0), true);
        due.answer("y of the landing", c.y(0), 30);
        due.answer("minutes", c.minutes(0), 20);
        GlidingContest uneven = Fixture.withTask(22);
        uneven.launch(0);
        due.answer("the height is cut at 0", uneven.fly(0, Fixture.NORTH, 50), 23);
        due.answer("height 0", uneven.height(0), 0);
        due.answer("landed with it", uneven.isLanded(0), true);
    }

    private static void flyThroughTask() {
        GlidingContest c = Fixture.withTask(30);
        c.launch(0);
        c.fly(0, Fixture.WEST, 1);
        due.answer("one reached", c.reached(0), 1);
        c.fly(0, Fixture.EAST, 12);
        due.answer("reached in passing", c.reached(0), 2);
        c.fly(0, Fixture.WEST, 1);
        due.answer("not reached twice", c.reached(0), 2);
        due.answer("the finish ends the flight", c.fly(0, Fixture.NORTH, 20), 8);
        due.answer("finished", c.isFinished(0), true);
        due.answer("all reached", c.reached(0), 3);
        due.answer("y of the finish", c.y(0), 18);
        GlidingContest early = Fixture.withTask(30);
        early.launch(0);
        early.fly(0, Fixture.NORTH, 8);
        early.fly(0, Fixture.EAST, 10);
        due.answer("the finish ahead of its turn", early.isFlying(0), true);
        due.answer("is not reached", early.reached(0), 1);
    }

    private static void flyFinishAtHeightZero() {
        GlidingContest c = new GlidingContest();
        c.addPoint(0, 0);
        c.addPoint(20, 0);
        c.addPoint(25, 0);
        c.addTaskPoint(0);
        c.addTaskPoint(1);
        c.addPilot(20);
        c.launch(0);
        due.answer("fly to the finish", c.fly(0, Fixture.EAST, 20), 20);
        due.answer("height 0", c.height(0), 0);
        due.answer("finished", c.isFinished(0), true);
        due.answer("not landed", c.isLanded(0), false);
        c.endDay();
        c.addTaskPoint(2);
        c.launch(0);
        c.fly(0, Fixture.EAST, 20);
        due.answer("a turn point at height 0", c.isLanded(0), true);
        due.answer("is reached", c.reached(0), 2);
    }

    private static void flyPenalty() {
        GlidingContest c = Fixture.withTask(40);
        c.addArea(10, 10, 12, 12);
        c.addArea(12, 10, 12, 10);
        c.addArea(13, 0, 13, 9);
        c.launch(0);
        due.answer("launching is free", c.penalty(0), 0);
        c.fly(0, Fixture.EAST, 5);
        due.answer("10 for each kilometre, once where areas overlap", c.penalty(0), 20);
        c.fly(0, Fixture.WEST, 3);
        due.answer("and again", c.penalty(0), 30);
        GlidingContest last = Fixture.withTask(20);
        last.addArea(10, 30, 10, 30);
        last.addArea(20, 18, 20, 18);
        last.addPilot(20);
        last.launch(0);
        last.launch(1);
        Fixture.land(last, 0);
        due.answer("the penalty of the landing", last.penalty(0), 10);
        Fixture.finish(last, 1);
        due.answer("the penalty of the finish", last.penalty(1), 10);
    }

    private static void flyRefused() {
        GlidingContest c = Fixture.withTask(20, 60);
        due.thrown("fly of no pilot", Fixture.INDEX, () -> c.fly(2, 9, 0));
        due.thrown("fly of pilot -1", Fixture.INDEX, () -> c.fly(-1, 0, 1));
        due.thrown("direction -1", Fixture.ARGUMENT, () -> c.fly(0, -1, 1));
        due.thrown("direction 4", Fixture.ARGUMENT, () -> c.fly(0, 4, 1));
        due.thrown("length 0", Fixture.ARGUMENT, () -> c.fly(0, 0, 0));
        due.thrown("length 61", Fixture.ARGUMENT, () -> c.fly(0, 0, 61));
        due.thrown("a waiting one", Fixture.STATE, () -> c.fly(0, 3, 11));
        c.launch(0);
        int[][] outside = {{0, 51}, {1, 51}, {2, 11}, {3, 11}};
        for (int[] way : outside) {
            due.thrown("over the edge " + way[0], Fixture.UNSUPPORTED,
                    () -> c.fly(0, way[0], way[1]));
        }
        due.answer("nothing has changed", Fixture.pilotLine(c, 0), "0f10,10 1000m 1/3");
        due.answer("the edge may be aimed at", c.fly(0, Fixture.NORTH, 50), 20);
        due.thrown("a landed one", Fixture.STATE, () -> c.fly(0, 3, 11));
        c.launch(1);
        due.answer("to the west edge", c.fly(1, Fixture.WEST, 10), 10);
        due.answer("to the south edge", c.fly(1, Fixture.SOUTH, 10), 10);
        due.answer("in the corner", c.x(1) + c.y(1), 0);
        due.thrown("south of the corner", Fixture.UNSUPPORTED, () -> c.fly(1, Fixture.SOUTH, 1));
        due.answer("a flight of 60", c.fly(1, Fixture.NORTH, 60), 1000 / 16 + 1 - 20);
    }

    private static void climb() {
        GlidingContest c = Fixture.withTask(20);
        c.addThermal(10, 12, 1);
        c.addThermal(11, 11, 2);
        c.addThermal(12, 11, 5);
        c.launch(0);
        due.answer("the strongest that covers", c.climb(0, 1), 1120);
        due.answer("two minutes", c.climb(0, 2), 1360);
        due.answer("minutes", c.minutes(0), 3);
        due.answer("cut at the cloud base", c.climb(0, 30), 1500);
        due.answer("all minutes count", c.minutes(0), 33);
        c.setCloudBase(3000);
        due.answer("30 minutes", c.climb(0, 30), 3000);
        due.answer("the position stays", c.x(0) + c.y(0), 20);
        due.answer("the penalty stays", c.penalty(0), 0);
        GlidingContest weak = Fixture.withTask(20);
        weak.setCloudBase(3000);
        weak.addThermal(10, 10, 1);
        weak.launch(0);
        due.answer("30 minutes in a weak one", weak.climb(0, 30), 2800);
    }

    private static void climbAboveBase() {
        GlidingContest c = Fixture.withTask(20);
        c.addThermal(10, 10, 3);
        c.launch(0);
        c.setCloudBase(700);
        due.answer("a height above the base stays", c.climb(0, 5), 1000);
        due.answer("the minutes count", c.minutes(0), 5);
        c.setCloudBase(1000);
        due.answer("a height at the base stays", c.climb(0, 5), 1000);
        c.setCloudBase(1001);
        due.answer("one metre", c.climb(0, 1), 1001);
    }

    private static void climbRefused() {
        GlidingContest c = Fixture.withTask(20);
        due.thrown("climb of no pilot", Fixture.INDEX, () -> c.climb(1, 0));
        due.thrown("climb of pilot -1", Fixture.INDEX, () -> c.climb(-1, 1));
        due.thrown("0 minutes", Fixture.ARGUMENT, () -> c.climb(0, 0));
        due.thrown("31 minutes", Fixture.ARGUMENT, () -> c.climb(0, 31));
        due.thrown("a waiting one", Fixture.STATE, () -> c.climb(0, 30));
        c.launch(0);
        due.thrown("no thermal", Fixture.UNSUPPORTED, () -> c.climb(0, 1));
        c.addThermal(10, 13, 5);
        due.thrown("a thermal 3 kilometres off", Fixture.UNSUPPORTED, () -> c.climb(0, 1));
        due.thrown("31 minutes without thermal", Fixture.ARGUMENT, () -> c.climb(0, 31));
        due.answer("minutes", c.minutes(0), 0);
        Fixture.land(c, 0);
        due.thrown("a landed one", Fixture.STATE, () -> c.climb(0, 1));
    }

    private static void endDay() {
        GlidingContest c = Fixture.withTask(20, 60, 60, 30);
        c.launch(0);
        c.launch(1);
        c.launch(2);
        Fixture.land(c, 0);
        Fixture.finish(c, 1);
        c.fly(2, Fixture.WEST, 1);
        c.fly(2, Fixture.EAST, 1);
        Fixture.finish(c, 2);
        due.answer("endDay", c.endDay(), 2);
        due.answer("days", c.days(), 1);
        due.answer("isPlanning", c.isPlanning(), true);
        due.answer("the total of a landed one", c.total(0), 0L);
        due.answer("the total of the fastest", c.total(1), 1500L);
        due.answer("the total of the slower one, by the least minutes of the day",
                c.total(2), 1000L + 500 * 18 / 20);
        due.answer("the total of a waiting one", c.total(3), 0L);
        for (int pilot = 0; pilot < 4; pilot++) {
            due.answer("all wait", Fixture.pilotLine(c, pilot), pilot + "-");
            due.answer("nothing reached", c.reached(pilot), 0);
        }
        c.launch(1);
        Fixture.finish(c, 1);
        due.answer("the second day", c.endDay(), 1);
        due.answer("totals add up", c.total(1), 3000L);
        due.answer("two days", c.days(), 2);
    }

    private static void endDayOfSix() {
        GlidingContest c = Fixture.withTask(60, 60, 60, 60, 60, 60);
        for (int pilot = 0; pilot < 6; pilot++) {
            due.answer("launch", c.launch(pilot), pilot + 1);
        }
        due.answer("all six agree", c.isConsistent(), true);
        for (int pilot = 0; pilot < 6; pilot++) {
            Fixture.finish(c, pilot);
        }
        due.answer("six finish", c.endDay(), 6);
        for (int pilot = 0; pilot < 6; pilot++) {
            due.answer("total of " + pilot, c.total(pilot), 1500L);
            due.answer("it waits", Fixture.pilotLine(c, pilot), pilot + "-");
        }
    }

    private static void endDayRefused() {
        GlidingContest c = new GlidingContest();
        due.thrown("endDay without pilots", Fixture.STATE, c::endDay);
        GlidingContest two = Fixture.withTask(20, 20);
        due.thrown("endDay in planning", Fixture.STATE, two::endDay);
        two.launch(0);
        two.launch(1);
        due.thrown("endDay while all fly", Fixture.STATE, two::endDay);
        Fixture.finish(two, 0);
        due.thrown("endDay while one flies", Fixture.STATE, two::endDay);
        due.answer("no day has ended", two.days(), 0);
        due.answer("no total", two.total(0), 0L);
        Fixture.land(two, 1);
        due.answer("endDay at last", two.endDay(), 1);
        due.thrown("endDay twice", Fixture.STATE, two::endDay);
    }
}
