import java.util.function.ToIntBiFunction;

/** The boundary cases of the promises 23 to 37: queries about pilots. */
public final class PilotQueryBoundaryTest {
    private static final int WAITING = 0;
    private static final int FLYING = 1;
    private static final int LANDED = 2;
    private static final int FINISHED = 3;

    public static void main(String[] args) {
        Promises.check(PilotQueryBoundaryTest.class);
    }

    /** The pilots 0 to 3 are waiting, flying, landed and finished. */
    private static GlidingContest ofEachPhase() {
        GlidingContest c = Fixture.withTask(20, 30, 20, 60);
        c.launch(FLYING);
        c.launch(LANDED);
        Fixture.land(c, LANDED);
        c.launch(FINISHED);
        Fixture.finish(c, FINISHED);
        return c;
    }

    private static void noSuchPilot(Due due, ToIntBiFunction<GlidingContest, Integer> query) {
        GlidingContest c = ofEachPhase();
        for (int pilot : new int[] {-1, Integer.MIN_VALUE, 4, 6, 256, Integer.MAX_VALUE}) {
            due.index(() -> query.applyAsInt(c, pilot));
        }
        GlidingContest none = new GlidingContest();
        due.index(() -> query.applyAsInt(none, 0));
        GlidingContest six = Fixture.withTask(20, 20, 20, 20, 20, 20);
        due.index(() -> query.applyAsInt(six, 6));
    }

    private static void onlyLaunched(Due due, ToIntBiFunction<GlidingContest, Integer> query,
            int flying, int landed, int finished) {
        GlidingContest c = ofEachPhase();
        due.is(query.applyAsInt(c, FLYING), flying);
        due.is(query.applyAsInt(c, LANDED), landed);
        due.is(query.applyAsInt(c, FINISHED), finished);
    }

    private static void waiting(Due due, ToIntBiFunction<GlidingContest, Integer> query) {
        GlidingContest c = ofEachPhase();
        due.state(() -> query.applyAsInt(c, WAITING));
    }

    /** After the day all wait, whatever they did before. */
    private static void waitingAgain(Due due, ToIntBiFunction<GlidingContest, Integer> query) {
        GlidingContest c = Fixture.withTask(20, 20);
        c.launch(0);
        Fixture.land(c, 0);
        c.launch(1);
        Fixture.finish(c, 1);
        c.endDay();
        due.state(() -> query.applyAsInt(c, 0));
        due.state(() -> query.applyAsInt(c, 1));
    }

    private static void notFlying(Due due, ToIntBiFunction<GlidingContest, Integer> query) {
        GlidingContest c = ofEachPhase();
        due.state(() -> query.applyAsInt(c, WAITING));
        due.state(() -> query.applyAsInt(c, LANDED));
        due.state(() -> query.applyAsInt(c, FINISHED));
    }

    // ---- promise 23

    static void promise23_pilotCount_empty_none(Due due) {
        due.is(new GlidingContest().pilotCount(), 0);
    }

    static void promise23_pilotCount_full_six(Due due) {
        GlidingContest c = new GlidingContest();
        for (int count = 1; count <= 6; count++) {
            c.addPilot(20);
            due.is(c.pilotCount(), count);
        }
        due.state(() -> c.addPilot(20));
        due.is(c.pilotCount(), 6);
    }

    // ---- promise 24

    static void promise24_isPlanning_empty_noPilots(Due due) {
        due.is(new GlidingContest().isPlanning(), true);
        due.is(Fixture.withTask().isPlanning(), true);
    }

    static void promise24_isPlanning_edge_allWait(Due due) {
        due.is(Fixture.withTask(20, 20, 20, 20, 20, 20).isPlanning(), true);
    }

    static void promise24_isPlanning_edge_lastPilotFlies(Due due) {
        GlidingContest c = Fixture.withTask(20, 20, 20, 20, 20, 20);
        c.launch(5);
        due.is(c.isPlanning(), false);
    }

    static void promise24_isPlanning_edge_firstPilotHasLanded(Due due) {
        GlidingContest c = Fixture.withTask(20, 20);
        c.launch(0);
        Fixture.land(c, 0);
        due.is(c.isPlanning(), false);
    }

    static void promise24_isPlanning_edge_onePilotHasFinished(Due due) {
        GlidingContest c = Fixture.withTask(20, 20);
        c.launch(0);
        Fixture.finish(c, 0);
        due.is(c.isPlanning(), false);
    }

    static void promise24_isPlanning_edge_afterEachOfManyDays(Due due) {
        GlidingContest c = Fixture.withTask(20);
        for (int day = 1; day <= 5; day++) {
            c.launch(0);
            due.is(c.isPlanning(), false);
            Fixture.finish(c, 0);
            due.is(c.isPlanning(), false);
            c.endDay();
            due.is(c.isPlanning(), true);
            due.is(c.days(), day);
        }
    }

    static void promise24_isPlanning_edge_afterTheDay(Due due) {
        GlidingContest c = Fixture.withTask(20, 20);
        c.launch(0);
        Fixture.finish(c, 0);
        c.endDay();
        due.is(c.isPlanning(), true);
    }

    // ---- promises 25 to 27

    static void promise25_isFlying_index_noSuchPilot(Due due) {
        noSuchPilot(due, (c, pilot) -> c.isFlying(pilot) ? 1 : 0);
    }

    static void promise25_isFlying_edge_eachPhase(Due due) {
        GlidingContest c = ofEachPhase();
        due.is(c.isFlying(WAITING), false);
        due.is(c.isFlying(FLYING), true);
        due.is(c.isFlying(LANDED), false);
        due.is(c.isFlying(FINISHED), false);
    }

    static void promise26_isLanded_index_noSuchPilot(Due due) {
        noSuchPilot(due, (c, pilot) -> c.isLanded(pilot) ? 1 : 0);
    }

    static void promise26_isLanded_edge_eachPhase(Due due) {
        GlidingContest c = ofEachPhase();
        due.is(c.isLanded(WAITING), false);
        due.is(c.isLanded(FLYING), false);
        due.is(c.isLanded(LANDED), true);
        due.is(c.isLanded(FINISHED), false);
    }

    static void promise27_isFinished_index_noSuchPilot(Due due) {
        noSuchPilot(due, (c, pilot) -> c.isFinished(pilot) ? 1 : 0);
    }

    static void promise27_isFinished_edge_eachPhase(Due due) {
        GlidingContest c = ofEachPhase();
        due.is(c.isFinished(WAITING), false);
        due.is(c.isFinished(FLYING), false);
        due.is(c.isFinished(LANDED), false);
        due.is(c.isFinished(FINISHED), true);
    }

    // ---- promise 28

    static void promise28_sink_index_noSuchPilot(Due due) {
        noSuchPilot(due, GlidingContest::sink);
    }

    static void promise28_sink_edge_leastAndGreatestRatio(Due due) {
        GlidingContest c = Fixture.withTask(20, 60);
        due.is(c.sink(0), 50);
        due.is(c.sink(1), 16);
    }

    static void promise28_sink_edge_roundedDown(Due due) {
        for (int ratio = 20; ratio <= 60; ratio++) {
            GlidingContest c = Fixture.withTask(ratio);
            int sink = c.sink(0);
            due.is(sink * ratio <= 1000 && (sink + 1) * ratio > 1000, true);
        }
    }

    static void promise28_sink_edge_eachPhase(Due due) {
        GlidingContest c = ofEachPhase();
        due.is(c.sink(WAITING), 50);
        due.is(c.sink(FLYING), 33);
        due.is(c.sink(LANDED), 50);
        due.is(c.sink(FINISHED), 16);
    }

    // ---- promises 29 to 33

    static void promise29_x_index_noSuchPilot(Due due) {
        noSuchPilot(due, GlidingContest::x);
    }

    static void promise29_x_state_waiting(Due due) {
        waiting(due, GlidingContest::x);
        waitingAgain(due, GlidingContest::x);
    }

    static void promise29_x_edge_eachLaunchedPhase(Due due) {
        onlyLaunched(due, GlidingContest::x, 10, 10, 20);
    }

    static void promise30_y_index_noSuchPilot(Due due) {
        noSuchPilot(due, GlidingContest::y);
    }

    static void promise30_y_state_waiting(Due due) {
        waiting(due, GlidingContest::y);
        waitingAgain(due, GlidingContest::y);
    }

    static void promise30_y_edge_eachLaunchedPhase(Due due) {
        onlyLaunched(due, GlidingContest::y, 10, 30, 18);
    }

    static void promise31_height_index_noSuchPilot(Due due) {
        noSuchPilot(due, GlidingContest::height);
    }

    static void promise31_height_state_waiting(Due due) {
        waiting(due, GlidingContest::height);
        waitingAgain(due, GlidingContest::height);
    }

    static void promise31_height_edge_eachLaunchedPhase(Due due) {
        onlyLaunched(due, GlidingContest::height, 1000, 0, 1000 - 18 * 16);
    }

    static void promise32_minutes_index_noSuchPilot(Due due) {
        noSuchPilot(due, GlidingContest::minutes);
    }

    static void promise32_minutes_state_waiting(Due due) {
        waiting(due, GlidingContest::minutes);
        waitingAgain(due, GlidingContest::minutes);
    }

    static void promise32_minutes_edge_eachLaunchedPhase(Due due) {
        onlyLaunched(due, GlidingContest::minutes, 0, 20, 18);
    }

    static void promise32_minutes_edge_flyingAndClimbingAreAdded(Due due) {
        GlidingContest c = ofEachPhase();
        c.addThermal(10, 12, 1);
        c.climb(FLYING, 30);
        c.fly(FLYING, Fixture.NORTH, 1);
        c.climb(FLYING, 1);
        due.is(c.minutes(FLYING), 32);
    }

    static void promise33_penalty_index_noSuchPilot(Due due) {
        noSuchPilot(due, GlidingContest::penalty);
    }

    static void promise33_penalty_state_waiting(Due due) {
        waiting(due, GlidingContest::penalty);
        waitingAgain(due, GlidingContest::penalty);
    }

    static void promise33_penalty_edge_noneInEachLaunchedPhase(Due due) {
        onlyLaunched(due, GlidingContest::penalty, 0, 0, 0);
    }

    static void promise33_penalty_full_everyKilometreRestricted(Due due) {
        GlidingContest c = Fixture.withTask(20, 30, 20, 60);
        c.addArea(0, 0, 60, 60);
        c.launch(FLYING);
        c.launch(LANDED);
        Fixture.land(c, LANDED);
        c.launch(FINISHED);
        Fixture.finish(c, FINISHED);
        due.is(c.penalty(FLYING), 0);
        due.is(c.penalty(LANDED), 200);
        due.is(c.penalty(FINISHED), 180);
    }

    // ---- promise 34

    static void promise34_reached_index_noSuchPilot(Due due) {
        noSuchPilot(due, GlidingContest::reached);
    }

    static void promise34_reached_edge_waitingNone(Due due) {
        GlidingContest c = ofEachPhase();
        due.is(c.reached(WAITING), 0);
        Fixture.finish(c, FLYING);
        c.endDay();
        due.is(c.reached(FLYING), 0);
        due.is(c.reached(LANDED), 0);
        due.is(c.reached(FINISHED), 0);
    }

    static void promise34_reached_edge_oneByTheLaunch(Due due) {
        GlidingContest c = ofEachPhase();
        due.is(c.reached(FLYING), 1);
        due.is(c.reached(LANDED), 1);
    }

    static void promise34_reached_full_allWhenFinished(Due due) {
        due.is(ofEachPhase().reached(FINISHED), 3);
    }

    static void promise34_reached_full_sixTurnPoints(Due due) {
        GlidingContest c = new GlidingContest();
        Fixture.runText(c, "point 1 1;point 1 2;task 0;task 1;task 0;task 1;task 0");
        c.addTaskPoint(1);
        c.addPilot(20);
        c.launch(0);
        for (int reached = 2; reached <= 6; reached++) {
            c.fly(0, reached % 2 == 0 ? Fixture.NORTH : Fixture.SOUTH, 1);
            due.is(c.reached(0), reached);
        }
        due.is(c.isFinished(0), true);
    }

    // ---- promise 35

    static void promise35_remainingDistance_index_noSuchPilot(Due due) {
        noSuchPilot(due, GlidingContest::remainingDistance);
    }

    static void promise35_remainingDistance_state_notFlying(Due due) {
        notFlying(due, GlidingContest::remainingDistance);
    }

    static void promise35_remainingDistance_edge_launchedTheWholeTask(Due due) {
        due.is(ofEachPhase().remainingDistance(FLYING), 18);
    }

    static void promise35_remainingDistance_edge_aroundATurnPoint(Due due) {
        GlidingContest c = ofEachPhase();
        c.fly(FLYING, Fixture.EAST, 9);
        due.is(c.remainingDistance(FLYING), 9);
        c.fly(FLYING, Fixture.EAST, 1);
        due.is(c.remainingDistance(FLYING), 8);
        c.fly(FLYING, Fixture.EAST, 1);
        due.is(c.remainingDistance(FLYING), 9);
    }

    static void promise35_remainingDistance_edge_leastBeforeTheFinish(Due due) {
        GlidingContest c = ofEachPhase();
        c.fly(FLYING, Fixture.EAST, 10);
        c.fly(FLYING, Fixture.NORTH, 7);
        due.is(c.remainingDistance(FLYING), 1);
    }

    static void promise35_remainingDistance_edge_shorterTaskAfterALongerOne(Due due) {
        GlidingContest c = Fixture.withTask(20);
        c.clearTask();
        c.addTaskPoint(1);
        c.addTaskPoint(2);
        c.launch(0);
        due.is(c.remainingDistance(0), 8);
        GlidingContest undone = Fixture.withTask();
        undone.addTaskPoint(0);
        undone.undo();
        undone.addPilot(20);
        undone.launch(0);
        due.is(undone.remainingDistance(0), 18);
    }

    static void promise35_remainingDistance_full_longestTask(Due due) {
        GlidingContest c = longest();
        due.is(c.remainingDistance(0), 600);
    }

    /** Five legs of 120 kilometres from corner to corner. */
    private static GlidingContest longest() {
        GlidingContest c = new GlidingContest();
        Fixture.runText(c, "point 0 0;point 60 60;task 0;task 1;task 0;task 1;task 0");
        c.addTaskPoint(1);
        c.addPilot(60);
        c.launch(0);
        return c;
    }

    // ---- promises 36 and 37

    /** A flight of some kilometres straight ahead from some height, with a sink of 50 metres. */
    private static GlidingContest ahead(int kilometres, int height) {
        GlidingContest c = new GlidingContest();
        c.addPoint(0, 0);
        c.addPoint(kilometres, 0);
        c.addTaskPoint(0);
        c.addTaskPoint(1);
        c.addPilot(20);
        c.setCloudBase(height);
        c.addThermal(0, 0, 5);
        c.launch(0);
        c.climb(0, 30);
        return c;
    }

    static void promise36_canFinish_index_noSuchPilot(Due due) {
        noSuchPilot(due, (c, pilot) -> c.canFinish(pilot) ? 1 : 0);
    }

    static void promise36_canFinish_state_notFlying(Due due) {
        notFlying(due, (c, pilot) -> c.canFinish(pilot) ? 1 : 0);
    }

    static void promise36_canFinish_edge_finishAtHeightZero(Due due) {
        due.is(ahead(20, 1000).canFinish(0), true);
        due.is(ahead(60, 3000).canFinish(0), true);
    }

    static void promise36_canFinish_edge_oneMetreAKilometreBefore(Due due) {
        due.is(ahead(21, 1001).canFinish(0), true);
        due.is(ahead(60, 2951).canFinish(0), true);
    }

    static void promise36_canFinish_edge_landsAKilometreBefore(Due due) {
        due.is(ahead(21, 1000).canFinish(0), false);
        due.is(ahead(60, 2950).canFinish(0), false);
    }

    static void promise36_canFinish_edge_lastKilometre(Due due) {
        GlidingContest c = ahead(20, 1000);
        c.fly(0, Fixture.EAST, 19);
        due.is(c.height(0), 50);
        due.is(c.canFinish(0), true);
    }

    static void promise36_canFinish_full_longestTask(Due due) {
        due.is(longest().canFinish(0), false);
    }

    static void promise37_canFinishBySimulation_index_noSuchPilot(Due due) {
        noSuchPilot(due, (c, pilot) -> c.canFinishBySimulation(pilot) ? 1 : 0);
    }

    static void promise37_canFinishBySimulation_state_notFlying(Due due) {
        notFlying(due, (c, pilot) -> c.canFinishBySimulation(pilot) ? 1 : 0);
    }

    static void promise37_canFinishBySimulation_edge_finishAtHeightZero(Due due) {
        due.is(ahead(20, 1000).canFinishBySimulation(0), true);
        due.is(ahead(60, 3000).canFinishBySimulation(0), true);
    }

    static void promise37_canFinishBySimulation_edge_oneMetreAKilometreBefore(Due due) {
        due.is(ahead(21, 1001).canFinishBySimulation(0), true);
        due.is(ahead(60, 2951).canFinishBySimulation(0), true);
    }

    static void promise37_canFinishBySimulation_edge_landsAKilometreBefore(Due due) {
        due.is(ahead(21, 1000).canFinishBySimulation(0), false);
        due.is(ahead(60, 2950).canFinishBySimulation(0), false);
    }

    static void promise37_canFinishBySimulation_edge_lastKilometre(Due due) {
        GlidingContest c = ahead(20, 1000);
        c.fly(0, Fixture.EAST, 19);
        due.is(c.canFinishBySimulation(0), true);
    }

    static void promise37_canFinishBySimulation_full_longestTask(Due due) {
        due.is(longest().canFinishBySimulation(0), false);
    }

    static void promise37_canFinishBySimulation_kept_thePilotStays(Due due) {
        GlidingContest c = Fixture.withTask(20);
        c.addArea(0, 0, 60, 60);
        c.launch(0);
        String before = View.of(c);
        due.is(c.canFinishBySimulation(0), true);
        due.is(View.of(c), before);
        due.is(c.undo(), 7);
        due.is(c.isPlanning(), true);
    }

    static void promise37_canFinishBySimulation_edge_inEachDirection(Due due) {
        int[][] ends = {{30, 50}, {50, 30}, {30, 10}, {10, 30}, {40, 40}, {20, 20}, {40, 20},
            {20, 40}};
        for (int[] end : ends) {
            GlidingContest c = new GlidingContest();
            c.addPoint(30, 30);
            c.addPoint(end[0], end[1]);
            c.addTaskPoint(0);
            c.addTaskPoint(1);
            c.addPilot(20);
            c.launch(0);
            due.is(c.canFinish(0), true);
            due.is(c.canFinishBySimulation(0), true);
        }
    }

    /** A pilot is launched for the task along the positions, given by x and y in turn. */
    private static GlidingContest along(int ratio, int... positions) {
        GlidingContest c = new GlidingContest();
        for (int i = 0; i + 1 < positions.length; i += 2) {
            c.addTaskPoint(c.addPoint(positions[i], positions[i + 1]));
        }
        c.addPilot(ratio);
        c.launch(0);
        return c;
    }

    /** At the middle one of three turn points, 15 kilometres before the finish. */
    private static GlidingContest atTheMiddle(int height) {
        GlidingContest c = along(20, 0, 0, 10, 0, 10, 15);
        c.addThermal(10, 0, 5);
        c.setCloudBase(height);
        c.fly(0, Fixture.EAST, 10);
        c.climb(0, 30);
        return c;
    }

    private static GlidingContest astray(int kilometres) {
        GlidingContest c = along(20, 10, 10, 20, 10, 20, 18);
        c.fly(0, Fixture.WEST, kilometres);
        return c;
    }

    private static GlidingContest withThermalOnTheWay() {
        GlidingContest c = along(20, 0, 0, 21, 0);
        c.addThermal(10, 0, 5);
        return c;
    }

    static void promise36_canFinish_edge_onlyTheNextTurnPointInReach(Due due) {
        due.is(along(20, 0, 0, 10, 0, 40, 0).canFinish(0), false);
    }

    static void promise36_canFinish_edge_legsBehindNoLongerCount(Due due) {
        due.is(atTheMiddle(701).canFinish(0), true);
        due.is(atTheMiddle(700).canFinish(0), false);
    }

    static void promise36_canFinish_edge_finishWhereTheStartIs(Due due) {
        due.is(along(20, 0, 0, 10, 0, 0, 0).canFinish(0), true);
        due.is(along(20, 0, 0, 11, 0, 0, 0).canFinish(0), false);
    }

    static void promise36_canFinish_edge_wayAstrayCounts(Due due) {
        due.is(astray(1).canFinish(0), true);
        due.is(astray(2).canFinish(0), false);
    }

    static void promise36_canFinish_edge_sinkIsRoundedDown(Due due) {
        due.is(along(60, 0, 0, 60, 0, 60, 3).canFinish(0), true);
        due.is(along(60, 0, 0, 60, 0, 60, 4).canFinish(0), false);
        due.is(along(37, 0, 0, 38, 0).canFinish(0), true);
        due.is(along(37, 0, 0, 39, 0).canFinish(0), false);
    }

    static void promise36_canFinish_edge_thermalOnTheWayDoesNotHelp(Due due) {
        due.is(withThermalOnTheWay().canFinish(0), false);
    }

    static void promise36_canFinish_edge_sixTurnPointsInReach(Due due) {
        due.is(along(20, 1, 1, 4, 1, 4, 4, 1, 4, 1, 1, 1, 9).canFinish(0), true);
        due.is(along(20, 1, 1, 4, 1, 4, 4, 1, 4, 1, 1, 1, 10).canFinish(0), false);
    }

    static void promise37_canFinishBySimulation_edge_onlyTheNextTurnPointInReach(Due due) {
        due.is(along(20, 0, 0, 10, 0, 40, 0).canFinishBySimulation(0), false);
    }

    static void promise37_canFinishBySimulation_edge_legsBehindNoLongerCount(Due due) {
        due.is(atTheMiddle(701).canFinishBySimulation(0), true);
        due.is(atTheMiddle(700).canFinishBySimulation(0), false);
    }

    static void promise37_canFinishBySimulation_edge_finishWhereTheStartIs(Due due) {
        due.is(along(20, 0, 0, 10, 0, 0, 0).canFinishBySimulation(0), true);
        due.is(along(20, 0, 0, 11, 0, 0, 0).canFinishBySimulation(0), false);
    }

    static void promise37_canFinishBySimulation_edge_wayAstrayCounts(Due due) {
        due.is(astray(1).canFinishBySimulation(0), true);
        due.is(astray(2).canFinishBySimulation(0), false);
    }

    static void promise37_canFinishBySimulation_edge_sinkIsRoundedDown(Due due) {
        due.is(along(60, 0, 0, 60, 0, 60, 3).canFinishBySimulation(0), true);
        due.is(along(60, 0, 0, 60, 0, 60, 4).canFinishBySimulation(0), false);
        due.is(along(37, 0, 0, 38, 0).canFinishBySimulation(0), true);
        due.is(along(37, 0, 0, 39, 0).canFinishBySimulation(0), false);
    }

    static void promise37_canFinishBySimulation_edge_thermalOnTheWayDoesNotHelp(Due due) {
        due.is(withThermalOnTheWay().canFinishBySimulation(0), false);
    }

    static void promise37_canFinishBySimulation_edge_sixTurnPointsInReach(Due due) {
        due.is(along(20, 1, 1, 4, 1, 4, 4, 1, 4, 1, 1, 1, 9).canFinishBySimulation(0), true);
        due.is(along(20, 1, 1, 4, 1, 4, 4, 1, 4, 1, 1, 1, 10).canFinishBySimulation(0), false);
    }
}
