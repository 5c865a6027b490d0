/** The boundary cases of the promises 8 to 12: pilots and flights. */
public final class FlightBoundaryTest {
    private static final int LEAST = Integer.MIN_VALUE;
    private static final int GREATEST = Integer.MAX_VALUE;

    public static void main(String[] args) {
        Promises.check(FlightBoundaryTest.class);
    }

    /** Pilot 0 flies at the start (10,10), pilot 1 waits. */
    private static GlidingContest flying() {
        GlidingContest c = Fixture.withTask(20, 60);
        c.launch(0);
        return c;
    }

    /** Pilot 0 has landed at (10,30), pilot 1 waits. */
    private static GlidingContest landed() {
        GlidingContest c = flying();
        Fixture.land(c, 0);
        return c;
    }

    /** Pilot 0 has finished at (20,18), pilot 1 waits. */
    private static GlidingContest finished() {
        GlidingContest c = flying();
        Fixture.finish(c, 0);
        return c;
    }

    /** A pilot flies at one end of the task from (x,y) to (otherX,otherY). */
    private static GlidingContest flyingFrom(int x, int y, int otherX, int otherY, int ratio) {
        GlidingContest c = new GlidingContest();
        c.addPoint(x, y);
        c.addPoint(otherX, otherY);
        c.addTaskPoint(0);
        c.addTaskPoint(1);
        c.addPilot(ratio);
        c.launch(0);
        return c;
    }

    // ---- promise 8

    static void promise08_addPilot_argument_ratioTooSmall(Due due) {
        GlidingContest c = new GlidingContest();
        due.argument(() -> c.addPilot(19));
        due.argument(() -> c.addPilot(0));
        due.argument(() -> c.addPilot(-1));
        due.argument(() -> c.addPilot(-20));
        due.argument(() -> c.addPilot(LEAST));
    }

    static void promise08_addPilot_argument_ratioTooLarge(Due due) {
        GlidingContest c = new GlidingContest();
        due.argument(() -> c.addPilot(61));
        due.argument(() -> c.addPilot(256 + 40));
        due.argument(() -> c.addPilot(GREATEST));
    }

    static void promise08_addPilot_edge_leastAndGreatestRatio(Due due) {
        GlidingContest c = new GlidingContest();
        due.is(c.addPilot(20), 0);
        due.is(c.addPilot(60), 1);
        due.is(c.sink(0), 50);
        due.is(c.sink(1), 16);
    }

    private static GlidingContest withSixPilots() {
        return Fixture.withTask(60, 60, 60, 60, 60, 60);
    }

    static void promise08_addPilot_full_sixIndices(Due due) {
        GlidingContest c = new GlidingContest();
        for (int pilot = 0; pilot < 6; pilot++) {
            due.is(c.addPilot(20 + pilot), pilot);
        }
        due.is(c.sink(5), 40);
    }

    static void promise08_addPilot_state_seventh(Due due) {
        GlidingContest c = withSixPilots();
        due.state(() -> c.addPilot(20));
        due.state(() -> c.addPilot(60));
    }

    static void promise08_addPilot_first_seventhOutOfRange(Due due) {
        GlidingContest c = withSixPilots();
        due.argument(() -> c.addPilot(19));
        due.argument(() -> c.addPilot(61));
    }

    static void promise08_addPilot_kept_eachRefusal(Due due) {
        GlidingContest two = Fixture.withTask(20, 30);
        due.kept(two, () -> two.addPilot(61));
        due.is(two.undo(), 7);
        due.is(two.pilotCount(), 1);
        GlidingContest six = withSixPilots();
        due.kept(six, () -> six.addPilot(20));
        due.is(six.undo(), 7);
        due.is(six.pilotCount(), 5);
    }

    static void promise08_addPilot_edge_waitsWithoutTotal(Due due) {
        GlidingContest c = new GlidingContest();
        c.addPilot(40);
        due.is(Fixture.pilotLine(c, 0), "0-");
        due.is(c.total(0), 0L);
    }

    static void promise08_addPilot_edge_afterUndoOfAnother(Due due) {
        GlidingContest c = finished();
        c.endDay();
        c.undo();
        c.undo();
        c.undo();
        c.undo();
        c.undo();
        due.is(c.pilotCount(), 1);
        due.is(c.addPilot(50), 1);
        due.is(c.sink(1), 20);
        due.is(c.total(1), 0L);
    }

    static void promise08_addPilot_late_atAnyTime(Due due) {
        GlidingContest c = flying();
        due.is(c.addPilot(20), 2);
        due.is(Fixture.pilotLine(c, 2), "2-");
        due.is(c.launch(2), 2);
        due.is(landed().addPilot(20), 2);
        due.is(finished().addPilot(20), 2);
    }

    // ---- promise 9

    static void promise09_launch_index_noPilots(Due due) {
        GlidingContest c = Fixture.withTask();
        due.index(() -> c.launch(0));
    }

    static void promise09_launch_index_tooSmall(Due due) {
        GlidingContest c = Fixture.withTask(20, 20);
        due.index(() -> c.launch(-1));
        due.index(() -> c.launch(LEAST));
    }

    static void promise09_launch_index_tooLarge(Due due) {
        GlidingContest c = Fixture.withTask(20, 20);
        due.index(() -> c.launch(2));
        due.index(() -> c.launch(6));
        due.index(() -> c.launch(GREATEST));
        GlidingContest six = withSixPilots();
        due.index(() -> six.launch(6));
    }

    static void promise09_launch_state_flying(Due due) {
        GlidingContest c = flying();
        due.state(() -> c.launch(0));
    }

    static void promise09_launch_state_landed(Due due) {
        GlidingContest c = landed();
        due.state(() -> c.launch(0));
    }

    static void promise09_launch_state_finished(Due due) {
        GlidingContest c = finished();
        due.state(() -> c.launch(0));
    }

    static void promise09_launch_unsupported_noTask(Due due) {
        GlidingContest c = new GlidingContest();
        c.addPilot(20);
        due.unsupported(() -> c.launch(0));
        GlidingContest cleared = Fixture.withTask(20);
        cleared.clearTask();
        due.unsupported(() -> cleared.launch(0));
    }

    static void promise09_launch_unsupported_oneTurnPoint(Due due) {
        GlidingContest c = new GlidingContest();
        c.addPoint(5, 5);
        c.addTaskPoint(0);
        c.addPilot(20);
        due.unsupported(() -> c.launch(0));
    }

    static void promise09_launch_edge_twoTurnPoints(Due due) {
        GlidingContest c = flyingFrom(0, 0, 0, 1, 20);
        due.is(c.isFlying(0), true);
    }

    static void promise09_launch_first_indexBeforeTask(Due due) {
        GlidingContest c = new GlidingContest();
        due.index(() -> c.launch(0));
        c.addPilot(20);
        due.index(() -> c.launch(1));
        due.index(() -> c.launch(-1));
    }

    static void promise09_launch_kept_eachRefusal(Due due) {
        GlidingContest c = flying();
        due.kept(c, () -> c.launch(2));
        due.kept(c, () -> c.launch(0));
        due.is(c.undo(), 7);
        due.is(c.isPlanning(), true);
        GlidingContest noTask = new GlidingContest();
        noTask.addPilot(20);
        due.kept(noTask, () -> noTask.launch(0));
        due.is(noTask.undo(), 0);
    }

    static void promise09_launch_full_sixFlying(Due due) {
        GlidingContest c = withSixPilots();
        for (int pilot = 0; pilot < 6; pilot++) {
            due.is(c.launch(pilot), pilot + 1);
        }
    }

    static void promise09_launch_edge_landedAndFinishedAreNotCounted(Due due) {
        due.is(landed().launch(1), 1);
        due.is(finished().launch(1), 1);
    }

    static void promise09_launch_edge_firstValues(Due due) {
        GlidingContest c = flying();
        due.is(Fixture.pilotLine(c, 0), "0f10,10 1000m 1/3");
        due.is(c.minutes(0), 0);
        due.is(c.penalty(0), 0);
    }

    static void promise09_launch_edge_startInAnAreaIsFree(Due due) {
        GlidingContest c = Fixture.withTask(20);
        c.addArea(0, 0, 60, 60);
        c.launch(0);
        due.is(c.penalty(0), 0);
    }

    static void promise09_launch_edge_heightAboveTheCloudBase(Due due) {
        GlidingContest c = Fixture.withTask(20);
        c.setCloudBase(500);
        c.launch(0);
        due.is(c.height(0), 1000);
    }

    static void promise09_launch_edge_nextDayBeginsAnew(Due due) {
        GlidingContest c = Fixture.withTask(20);
        c.addArea(10, 20, 10, 40);
        c.launch(0);
        Fixture.land(c, 0);
        c.endDay();
        due.is(c.launch(0), 1);
        due.is(Fixture.pilotLine(c, 0), "0f10,10 1000m 1/3");
        due.is(c.minutes(0), 0);
        due.is(c.penalty(0), 0);
    }

    // ---- promise 10

    static void promise10_fly_index_noPilots(Due due) {
        GlidingContest c = Fixture.withTask();
        due.index(() -> c.fly(0, 0, 1));
    }

    static void promise10_fly_index_tooSmall(Due due) {
        GlidingContest c = flying();
        due.index(() -> c.fly(-1, 0, 1));
        due.index(() -> c.fly(LEAST, 0, 1));
    }

    static void promise10_fly_index_tooLarge(Due due) {
        GlidingContest c = flying();
        due.index(() -> c.fly(2, 0, 1));
        due.index(() -> c.fly(GREATEST, 0, 1));
    }

    static void promise10_fly_argument_directionTooSmall(Due due) {
        GlidingContest c = flying();
        due.argument(() -> c.fly(0, -1, 1));
        due.argument(() -> c.fly(0, LEAST, 1));
    }

    static void promise10_fly_argument_directionTooLarge(Due due) {
        GlidingContest c = flying();
        due.argument(() -> c.fly(0, 4, 1));
        due.argument(() -> c.fly(0, 256, 1));
        due.argument(() -> c.fly(0, GREATEST, 1));
    }

    static void promise10_fly_argument_lengthTooSmall(Due due) {
        GlidingContest c = flying();
        due.argument(() -> c.fly(0, 0, 0));
        due.argument(() -> c.fly(0, 0, -1));
        due.argument(() -> c.fly(0, 0, LEAST));
    }

    static void promise10_fly_argument_lengthTooLarge(Due due) {
        GlidingContest c = flying();
        due.argument(() -> c.fly(0, 0, 61));
        due.argument(() -> c.fly(0, 0, 257));
        due.argument(() -> c.fly(0, 1, GREATEST));
    }

    static void promise10_fly_edge_leastLength(Due due) {
        GlidingContest c = flying();
        due.is(c.fly(0, 0, 1), 1);
        due.is(Fixture.pilotLine(c, 0), "0f10,11 950m 1/3");
        due.is(c.minutes(0), 1);
    }

    static void promise10_fly_edge_greatestLength(Due due) {
        GlidingContest c = flyingFrom(0, 0, 60, 60, 60);
        due.is(c.fly(0, 1, 60), 60);
        due.is(Fixture.pilotLine(c, 0), "0f60,0 40m 1/2");
        due.is(c.minutes(0), 60);
    }

    static void promise10_fly_edge_leastAndGreatestDirection(Due due) {
        GlidingContest north = flying();
        due.is(north.fly(0, 0, 2), 2);
        due.is(Fixture.pilotLine(north, 0), "0f10,12 900m 1/3");
        GlidingContest west = flying();
        due.is(west.fly(0, 3, 2), 2);
        due.is(Fixture.pilotLine(west, 0), "0f8,10 900m 1/3");
    }

    static void promise10_fly_state_waiting(Due due) {
        GlidingContest c = flying();
        due.state(() -> c.fly(1, 0, 1));
        due.state(() -> c.fly(1, 2, 60));
    }

    static void promise10_fly_state_landed(Due due) {
        GlidingContest c = landed();
        due.state(() -> c.fly(0, 0, 1));
    }

    static void promise10_fly_state_finished(Due due) {
        GlidingContest c = finished();
        due.state(() -> c.fly(0, 0, 1));
    }

    static void promise10_fly_unsupported_beyondTheNorth(Due due) {
        GlidingContest c = flying();
        due.unsupported(() -> c.fly(0, Fixture.NORTH, 51));
        due.unsupported(() -> c.fly(0, Fixture.NORTH, 60));
        GlidingContest edge = flyingFrom(0, 60, 0, 0, 20);
        due.unsupported(() -> edge.fly(0, Fixture.NORTH, 1));
    }

    static void promise10_fly_unsupported_beyondTheEast(Due due) {
        GlidingContest c = flying();
        due.unsupported(() -> c.fly(0, Fixture.EAST, 51));
        GlidingContest edge = flyingFrom(60, 0, 0, 0, 20);
        due.unsupported(() -> edge.fly(0, Fixture.EAST, 1));
    }

    static void promise10_fly_unsupported_beyondTheSouth(Due due) {
        GlidingContest c = flying();
        due.unsupported(() -> c.fly(0, Fixture.SOUTH, 11));
        GlidingContest edge = flyingFrom(60, 0, 0, 0, 20);
        due.unsupported(() -> edge.fly(0, Fixture.SOUTH, 1));
    }

    static void promise10_fly_unsupported_beyondTheWest(Due due) {
        GlidingContest c = flying();
        due.unsupported(() -> c.fly(0, Fixture.WEST, 11));
        GlidingContest edge = flyingFrom(0, 60, 0, 0, 20);
        due.unsupported(() -> edge.fly(0, Fixture.WEST, 1));
    }

    static void promise10_fly_edge_toEachEdgeOfTheMap(Due due) {
        int[] edges = {60, 60, 0, 0};
        for (int direction = 0; direction < 4; direction++) {
            GlidingContest c = flyingFrom(30, 30, 31, 31, 60);
            due.is(c.fly(0, direction, 30), 30);
            due.is(direction % 2 == 0 ? c.y(0) : c.x(0), edges[direction]);
            due.is(direction % 2 == 0 ? c.x(0) : c.y(0), 30);
        }
    }

    static void promise10_fly_unsupported_evenIfItWouldLandBefore(Due due) {
        GlidingContest c = flying();
        due.unsupported(() -> c.fly(0, Fixture.NORTH, 51));
        due.is(c.fly(0, Fixture.NORTH, 50), 20);
        due.is(c.isLanded(0), true);
    }

    static void promise10_fly_unsupported_evenIfItWouldFinishBefore(Due due) {
        GlidingContest c = flyingFrom(50, 0, 52, 0, 20);
        due.unsupported(() -> c.fly(0, Fixture.EAST, 11));
        due.is(c.fly(0, Fixture.EAST, 10), 2);
        due.is(c.isFinished(0), true);
    }

    static void promise10_fly_first_indexBeforeArguments(Due due) {
        GlidingContest c = flying();
        due.index(() -> c.fly(2, 4, 1));
        due.index(() -> c.fly(-1, 0, 0));
    }

    static void promise10_fly_first_argumentsBeforeWaiting(Due due) {
        GlidingContest c = flying();
        due.argument(() -> c.fly(1, 4, 1));
        due.argument(() -> c.fly(1, 0, 61));
    }

    static void promise10_fly_first_argumentsBeforeLandedAndFinished(Due due) {
        GlidingContest down = landed();
        due.argument(() -> down.fly(0, -1, 1));
        due.argument(() -> down.fly(0, 0, 0));
        GlidingContest there = finished();
        due.argument(() -> there.fly(0, 4, 1));
        due.argument(() -> there.fly(0, 0, 61));
    }

    static void promise10_fly_first_argumentsBeforeTheEdge(Due due) {
        GlidingContest c = flying();
        due.argument(() -> c.fly(0, Fixture.NORTH, 61));
        due.argument(() -> c.fly(0, 4, 60));
    }

    static void promise10_fly_first_notFlyingBeforeTheEdge(Due due) {
        GlidingContest down = landed();
        due.state(() -> down.fly(0, Fixture.NORTH, 31));
        due.state(() -> down.fly(0, Fixture.WEST, 60));
        GlidingContest there = finished();
        due.state(() -> there.fly(0, Fixture.WEST, 21));
        due.state(() -> there.fly(1, Fixture.WEST, 1));
    }

    static void promise10_fly_kept_eachRefusal(Due due) {
        GlidingContest c = flying();
        due.kept(c, () -> c.fly(2, 0, 1));
        due.kept(c, () -> c.fly(0, 0, 61));
        due.kept(c, () -> c.fly(0, Fixture.WEST, 11));
        due.is(c.undo(), 7);
        due.is(c.isPlanning(), true);
        GlidingContest down = landed();
        due.kept(down, () -> down.fly(0, 0, 1));
        due.is(down.undo(), 7);
        due.is(down.isFlying(0), true);
    }

    static void promise10_fly_edge_heightIsNotBelowZero(Due due) {
        GlidingContest c = flyingFrom(0, 0, 60, 60, 22);
        due.is(c.fly(0, Fixture.EAST, 22), 22);
        due.is(Fixture.pilotLine(c, 0), "0f22,0 10m 1/2");
        due.is(c.fly(0, Fixture.EAST, 1), 1);
        due.is(Fixture.pilotLine(c, 0), "0l23,0 0m 1/2");
    }

    static void promise10_fly_edge_landsAtHeightZeroExactly(Due due) {
        GlidingContest c = flying();
        due.is(c.fly(0, Fixture.NORTH, 19), 19);
        due.is(Fixture.pilotLine(c, 0), "0f10,29 50m 1/3");
        due.is(c.fly(0, Fixture.NORTH, 1), 1);
        due.is(Fixture.pilotLine(c, 0), "0l10,30 0m 1/3");
    }

    static void promise10_fly_edge_endsWithTheLanding(Due due) {
        GlidingContest c = flying();
        due.is(c.fly(0, Fixture.NORTH, 21), 20);
        due.is(c.y(0), 30);
        due.is(c.minutes(0), 20);
    }

    static void promise10_fly_edge_endsWithTheFinish(Due due) {
        GlidingContest c = flyingFrom(5, 5, 5, 9, 20);
        due.is(c.fly(0, Fixture.NORTH, 5), 4);
        due.is(Fixture.pilotLine(c, 0), "0!5,9 800m 2/2");
        due.is(c.minutes(0), 4);
    }

    static void promise10_fly_edge_finishesAtHeightZero(Due due) {
        GlidingContest c = flyingFrom(0, 0, 20, 0, 20);
        due.is(c.fly(0, Fixture.EAST, 20), 20);
        due.is(Fixture.pilotLine(c, 0), "0!20,0 0m 2/2");
    }

    static void promise10_fly_edge_reachesTurnPointAtHeightZeroAndLands(Due due) {
        GlidingContest c = new GlidingContest();
        Fixture.runText(c, "point 0 0;point 20 0;point 25 0;task 0;task 1;task 2");
        c.addPilot(20);
        c.launch(0);
        due.is(c.fly(0, Fixture.EAST, 25), 20);
        due.is(Fixture.pilotLine(c, 0), "0l20,0 0m 2/3");
    }

    static void promise10_fly_edge_severalTurnPointsInOneFlight(Due due) {
        GlidingContest c = new GlidingContest();
        Fixture.runText(c, "point 1 0;point 2 0;point 3 0;task 0;task 1;task 2");
        c.addPilot(20);
        c.launch(0);
        due.is(c.fly(0, Fixture.EAST, 9), 2);
        due.is(Fixture.pilotLine(c, 0), "0!3,0 900m 3/3");
    }

    static void promise10_fly_edge_onlyTheNextTurnPointIsReached(Due due) {
        GlidingContest c = flying();
        c.fly(0, Fixture.NORTH, 8);
        c.fly(0, Fixture.EAST, 10);
        due.is(Fixture.pilotLine(c, 0), "0f20,18 100m 1/3");
    }

    static void promise10_fly_edge_noTurnPointIsReachedTwice(Due due) {
        GlidingContest c = flying();
        c.fly(0, Fixture.EAST, 11);
        c.fly(0, Fixture.WEST, 1);
        due.is(c.reached(0), 2);
        c.fly(0, Fixture.WEST, 1);
        due.is(c.reached(0), 2);
    }

    static void promise10_fly_edge_areaCountsOnceWhereAreasOverlap(Due due) {
        GlidingContest c = flying();
        c.addArea(10, 11, 10, 11);
        c.addArea(9, 9, 11, 11);
        c.addArea(0, 0, 60, 11);
        c.fly(0, Fixture.NORTH, 2);
        due.is(c.penalty(0), 10);
    }

    static void promise10_fly_edge_penaltyAtTheLimitsOfAnArea(Due due) {
        GlidingContest c = flying();
        c.addArea(12, 10, 14, 10);
        c.fly(0, Fixture.EAST, 1);
        due.is(c.penalty(0), 0);
        c.fly(0, Fixture.EAST, 1);
        due.is(c.penalty(0), 10);
        c.fly(0, Fixture.EAST, 2);
        due.is(c.penalty(0), 30);
        c.fly(0, Fixture.EAST, 1);
        due.is(c.penalty(0), 30);
    }

    static void promise10_fly_edge_penaltyOfTheLastKilometre(Due due) {
        GlidingContest down = flying();
        down.addArea(10, 30, 10, 30);
        Fixture.land(down, 0);
        due.is(Fixture.pilotLine(down, 0), "0l10,30 0m 1/3 -10");
        GlidingContest there = flying();
        there.addArea(20, 18, 20, 18);
        Fixture.finish(there, 0);
        due.is(Fixture.pilotLine(there, 0), "0!20,18 100m 3/3 -10");
    }

    // ---- promise 11

    static void promise11_climb_index_noPilots(Due due) {
        GlidingContest c = Fixture.withTask();
        due.index(() -> c.climb(0, 1));
    }

    private static GlidingContest inThermal(int strength) {
        GlidingContest c = flying();
        c.addThermal(10, 10, strength);
        return c;
    }

    static void promise11_climb_index_tooSmall(Due due) {
        GlidingContest c = inThermal(1);
        due.index(() -> c.climb(-1, 1));
        due.index(() -> c.climb(LEAST, 1));
    }

    static void promise11_climb_index_tooLarge(Due due) {
        GlidingContest c = inThermal(1);
        due.index(() -> c.climb(2, 1));
        due.index(() -> c.climb(GREATEST, 1));
    }

    static void promise11_climb_argument_minutesTooSmall(Due due) {
        GlidingContest c = inThermal(1);
        due.argument(() -> c.climb(0, 0));
        due.argument(() -> c.climb(0, -1));
        due.argument(() -> c.climb(0, LEAST));
    }

    static void promise11_climb_argument_minutesTooLarge(Due due) {
        GlidingContest c = inThermal(1);
        due.argument(() -> c.climb(0, 31));
        due.argument(() -> c.climb(0, 257));
        due.argument(() -> c.climb(0, GREATEST));
    }

    static void promise11_climb_edge_leastMinutes(Due due) {
        GlidingContest c = inThermal(1);
        due.is(c.climb(0, 1), 1060);
        due.is(c.minutes(0), 1);
    }

    static void promise11_climb_edge_greatestMinutes(Due due) {
        GlidingContest c = inThermal(1);
        c.setCloudBase(3000);
        due.is(c.climb(0, 30), 2800);
        due.is(c.minutes(0), 30);
    }

    static void promise11_climb_state_waiting(Due due) {
        GlidingContest c = inThermal(1);
        due.state(() -> c.climb(1, 1));
    }

    static void promise11_climb_state_landed(Due due) {
        GlidingContest c = landed();
        c.addThermal(10, 30, 5);
        due.state(() -> c.climb(0, 1));
    }

    static void promise11_climb_state_finished(Due due) {
        GlidingContest c = finished();
        c.addThermal(20, 18, 5);
        due.state(() -> c.climb(0, 1));
    }

    static void promise11_climb_unsupported_noThermals(Due due) {
        GlidingContest c = flying();
        due.unsupported(() -> c.climb(0, 1));
    }

    static void promise11_climb_unsupported_thermalThreeKilometresOff(Due due) {
        int[][] off = {{13, 10}, {7, 10}, {10, 13}, {10, 7}, {12, 11}, {11, 12}, {9, 8}, {8, 11}};
        for (int[] at : off) {
            GlidingContest c = flying();
            c.addThermal(at[0], at[1], 5);
            due.unsupported(() -> c.climb(0, 1));
        }
    }

    static void promise11_climb_edge_thermalTwoKilometresOff(Due due) {
        int[][] off = {{12, 10}, {8, 10}, {10, 12}, {10, 8}, {11, 11}, {9, 9}, {11, 9}, {9, 11}};
        for (int[] at : off) {
            GlidingContest c = flying();
            c.addThermal(at[0], at[1], 1);
            due.is(c.climb(0, 1), 1060);
        }
    }

    static void promise11_climb_edge_strongestOfSeveral(Due due) {
        GlidingContest rising = flying();
        rising.addThermal(10, 10, 2);
        rising.addThermal(10, 12, 4);
        rising.addThermal(10, 13, 5);
        due.is(rising.climb(0, 1), 1240);
        GlidingContest falling = flying();
        falling.addThermal(10, 13, 5);
        falling.addThermal(10, 12, 4);
        falling.addThermal(10, 10, 2);
        due.is(falling.climb(0, 1), 1240);
    }

    static void promise11_climb_edge_cutAtTheCloudBase(Due due) {
        climbs(due, 1060, 1, 1060);
        climbs(due, 1059, 1, 1059);
        climbs(due, 1061, 1, 1060);
        climbs(due, 1061, 2, 1061);
    }

    static void promise11_climb_edge_atTheCloudBaseAlready(Due due) {
        climbs(due, 1000, 3, 1000);
    }

    static void promise11_climb_edge_aboveTheCloudBaseItStays(Due due) {
        climbs(due, 999, 3, 1000);
        climbs(due, 500, 30, 1000);
    }

    static void promise11_climb_edge_belowTheCloudBaseByOne(Due due) {
        climbs(due, 1001, 1, 1001);
    }

    /** A climb from 1000 metres in a thermal of strength 1, below some cloud base. */
    private static void climbs(Due due, int base, int minutes, int height) {
        GlidingContest c = inThermal(1);
        c.setCloudBase(base);
        due.is(c.climb(0, minutes), height);
        due.is(c.height(0), height);
        due.is(c.minutes(0), minutes);
    }

    static void promise11_climb_first_indexBeforeMinutes(Due due) {
        GlidingContest c = inThermal(1);
        due.index(() -> c.climb(2, 0));
        due.index(() -> c.climb(-1, 31));
    }

    static void promise11_climb_first_minutesBeforeWaiting(Due due) {
        GlidingContest c = inThermal(1);
        due.argument(() -> c.climb(1, 0));
        due.argument(() -> c.climb(1, 31));
    }

    static void promise11_climb_first_minutesBeforeNoThermal(Due due) {
        GlidingContest c = flying();
        due.argument(() -> c.climb(0, 0));
        due.argument(() -> c.climb(0, 31));
    }

    static void promise11_climb_first_notFlyingBeforeNoThermal(Due due) {
        due.state(() -> flying().climb(1, 1));
        due.state(() -> landed().climb(0, 1));
        due.state(() -> finished().climb(0, 1));
    }

    static void promise11_climb_kept_eachRefusal(Due due) {
        GlidingContest c = flying();
        due.kept(c, () -> c.climb(2, 1));
        due.kept(c, () -> c.climb(0, 31));
        due.kept(c, () -> c.climb(0, 1));
        due.is(c.undo(), 7);
        due.is(c.isPlanning(), true);
        GlidingContest down = landed();
        due.kept(down, () -> down.climb(0, 1));
        due.is(down.undo(), 7);
        due.is(down.isFlying(0), true);
    }

    // ---- promise 12

    static void promise12_endDay_state_noPilots(Due due) {
        due.state(new GlidingContest()::endDay);
        due.state(Fixture.withTask()::endDay);
    }

    static void promise12_endDay_state_allWaiting(Due due) {
        due.state(Fixture.withTask(20, 20)::endDay);
    }

    static void promise12_endDay_state_allFlying(Due due) {
        GlidingContest c = flying();
        c.launch(1);
        due.state(c::endDay);
    }

    static void promise12_endDay_state_oneFlyingBesideOthers(Due due) {
        due.state(flying()::endDay);
        GlidingContest down = landed();
        down.launch(1);
        due.state(down::endDay);
        GlidingContest there = finished();
        there.launch(1);
        due.state(there::endDay);
    }

    static void promise12_endDay_state_twice(Due due) {
        GlidingContest c = finished();
        c.endDay();
        due.state(c::endDay);
    }

    static void promise12_endDay_kept_eachRefusal(Due due) {
        GlidingContest waiting = Fixture.withTask(20);
        due.kept(waiting, waiting::endDay);
        due.is(waiting.undo(), 6);
        GlidingContest there = finished();
        there.launch(1);
        due.kept(there, there::endDay);
        due.is(there.total(0), 0L);
        due.is(there.undo(), 7);
    }

    static void promise12_endDay_edge_noneFinished(Due due) {
        GlidingContest c = landed();
        due.is(c.endDay(), 0);
        due.is(c.days(), 1);
        due.is(Fixture.pilotLine(c, 0), "0-");
    }

    static void promise12_endDay_edge_waitingPilotsMayStay(Due due) {
        GlidingContest c = finished();
        due.is(c.endDay(), 1);
        due.is(c.total(0), 1500L);
        due.is(c.total(1), 0L);
        due.is(Fixture.pilotLine(c, 0) + Fixture.pilotLine(c, 1), "0-1-");
    }

    static void promise12_endDay_full_sixFinished(Due due) {
        GlidingContest c = withSixPilots();
        for (int pilot = 0; pilot < 6; pilot++) {
            c.launch(pilot);
            Fixture.finish(c, pilot);
        }
        due.is(c.endDay(), 6);
        for (int pilot = 0; pilot < 6; pilot++) {
            due.is(c.total(pilot), 1500L);
            due.is(c.reached(pilot), 0);
        }
        due.is(c.isPlanning(), true);
    }

    static void promise12_endDay_edge_scoreBelowZeroAddsNothing(Due due) {
        GlidingContest c = flying();
        c.addArea(0, 0, 60, 60);
        c.fly(0, Fixture.SOUTH, 10);
        c.fly(0, Fixture.WEST, 10);
        due.is(c.penalty(0), 200);
        due.is(c.endDay(), 0);
        due.is(c.total(0), 0L);
    }

    static void promise12_endDay_edge_leastMinutesCountForAllBeforeAnyRests(Due due) {
        GlidingContest c = Fixture.withTask(60, 60);
        c.launch(0);
        Fixture.finish(c, 0);
        c.launch(1);
        c.fly(1, Fixture.WEST, 1);
        c.fly(1, Fixture.EAST, 1);
        Fixture.finish(c, 1);
        due.is(c.endDay(), 2);
        due.is(c.total(0), 1500L);
        due.is(c.total(1), 1450L);
    }

    static void promise12_endDay_edge_mapAndTaskStay(Due due) {
        GlidingContest c = finished();
        c.addThermal(1, 1, 3);
        c.addArea(1, 1, 1, 1);
        c.setCloudBase(700);
        c.endDay();
        due.is(Fixture.taskLine(c), "0-10>1-8>2");
        due.is(c.strongestThermal(1, 1), 3);
        due.is(c.isRestricted(1, 1), true);
        due.is(c.cloudBase(), 700);
    }
}
