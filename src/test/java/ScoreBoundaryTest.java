/** The boundary cases of the promises 38 to 45: queries about scores. */
public final class ScoreBoundaryTest {
    private static final int LEAST = Integer.MIN_VALUE;
    private static final int GREATEST = Integer.MAX_VALUE;

    public static void main(String[] args) {
        Promises.check(ScoreBoundaryTest.class);
    }

    private static int[] noPilots(GlidingContest c) {
        return new int[] {-1, LEAST, c.pilotCount(), 6, 256, GREATEST};
    }

    /** Pilot 0 has finished in 18 minutes, pilot 1 waits. */
    private static GlidingContest finished() {
        GlidingContest c = Fixture.withTask(60, 60);
        c.launch(0);
        Fixture.finish(c, 0);
        return c;
    }

    private static GlidingContest flying() {
        GlidingContest c = Fixture.withTask(60, 60);
        c.launch(0);
        return c;
    }

    // ---- promise 38

    static void promise38_achievedDistance_index_noSuchPilot(Due due) {
        GlidingContest c = finished();
        for (int pilot : noPilots(c)) {
            due.index(() -> c.achievedDistance(pilot));
        }
        GlidingContest none = new GlidingContest();
        due.index(() -> none.achievedDistance(0));
    }

    static void promise38_achievedDistance_edge_waitingNone(Due due) {
        GlidingContest c = finished();
        due.is(c.achievedDistance(1), 0);
        c.endDay();
        due.is(c.achievedDistance(0), 0);
    }

    static void promise38_achievedDistance_edge_waitingWithoutTask(Due due) {
        GlidingContest c = new GlidingContest();
        c.addPilot(20);
        due.is(c.achievedDistance(0), 0);
    }

    static void promise38_achievedDistance_edge_launchedNone(Due due) {
        due.is(flying().achievedDistance(0), 0);
    }

    static void promise38_achievedDistance_edge_differenceOfOne(Due due) {
        GlidingContest c = flying();
        c.fly(0, Fixture.EAST, 1);
        due.is(c.achievedDistance(0), 1);
    }

    static void promise38_achievedDistance_edge_differenceBelowZero(Due due) {
        GlidingContest c = flying();
        c.fly(0, Fixture.WEST, 1);
        due.is(c.achievedDistance(0), 0);
        c.fly(0, Fixture.WEST, 9);
        due.is(c.achievedDistance(0), 0);
    }

    static void promise38_achievedDistance_edge_differenceBelowZeroOnTheSecondLeg(Due due) {
        GlidingContest c = flying();
        c.fly(0, Fixture.EAST, 10);
        due.is(c.achievedDistance(0), 10);
        c.fly(0, Fixture.SOUTH, 1);
        due.is(c.achievedDistance(0), 10);
        c.fly(0, Fixture.NORTH, 2);
        due.is(c.achievedDistance(0), 11);
    }

    static void promise38_achievedDistance_edge_aKilometreBeforeTheFinish(Due due) {
        GlidingContest c = flying();
        c.fly(0, Fixture.EAST, 10);
        c.fly(0, Fixture.NORTH, 7);
        due.is(c.achievedDistance(0), 17);
    }

    static void promise38_achievedDistance_full_finishedTheTaskDistance(Due due) {
        due.is(finished().achievedDistance(0), 18);
    }

    static void promise38_achievedDistance_edge_shorterTaskAfterALongerOne(Due due) {
        GlidingContest c = Fixture.withTask(60, 60);
        c.clearTask();
        c.addTaskPoint(1);
        c.addTaskPoint(2);
        c.launch(0);
        due.is(c.achievedDistance(0), 0);
        c.fly(0, Fixture.NORTH, 7);
        due.is(c.achievedDistance(0), 7);
        c.fly(0, Fixture.NORTH, 1);
        due.is(c.achievedDistance(0), 8);
        due.is(c.dayScore(0), 1500);
    }

    static void promise38_achievedDistance_edge_landedFarOff(Due due) {
        GlidingContest c = Fixture.withTask(20);
        c.launch(0);
        c.fly(0, Fixture.SOUTH, 8);
        c.fly(0, Fixture.EAST, 12);
        due.is(c.isLanded(0), true);
        due.is(c.achievedDistance(0), 0);
        due.is(c.dayScore(0), 0);
    }

    static void promise38_achievedDistance_edge_landedOnTheWay(Due due) {
        GlidingContest c = Fixture.withTask(20);
        c.launch(0);
        c.fly(0, Fixture.SOUTH, 5);
        c.fly(0, Fixture.EAST, 8);
        c.fly(0, Fixture.NORTH, 5);
        c.fly(0, Fixture.WEST, 2);
        due.is(c.isLanded(0), true);
        due.is(c.achievedDistance(0), 6);
        due.is(c.dayScore(0), 333);
    }

    // ---- promise 39

    static void promise39_dayScore_index_noSuchPilot(Due due) {
        GlidingContest c = finished();
        for (int pilot : noPilots(c)) {
            due.index(() -> c.dayScore(pilot));
        }
        GlidingContest none = new GlidingContest();
        due.index(() -> none.dayScore(0));
    }

    static void promise39_dayScore_edge_waitingNone(Due due) {
        GlidingContest c = finished();
        due.is(c.dayScore(1), 0);
        c.endDay();
        due.is(c.dayScore(0), 0);
    }

    static void promise39_dayScore_edge_waitingWithoutTask(Due due) {
        GlidingContest c = new GlidingContest();
        c.addPilot(20);
        due.is(c.dayScore(0), 0);
    }

    static void promise39_dayScore_edge_launchedNone(Due due) {
        due.is(flying().dayScore(0), 0);
    }

    static void promise39_dayScore_edge_zeroByThePenalty(Due due) {
        GlidingContest c = flying();
        c.addArea(11, 10, 11, 10);
        c.addArea(9, 10, 9, 10);
        c.fly(0, Fixture.EAST, 1);
        due.is(c.dayScore(0), 45);
        c.fly(0, Fixture.WEST, 2);
        due.is(c.penalty(0), 20);
        due.is(c.dayScore(0), 0);
    }

    /** A leg of 50 kilometres: a kilometre counts 20. */
    private static GlidingContest restricted() {
        GlidingContest c = new GlidingContest();
        c.addPoint(0, 0);
        c.addPoint(50, 0);
        c.addTaskPoint(0);
        c.addTaskPoint(1);
        c.addPilot(20);
        c.addArea(0, 0, 60, 60);
        c.launch(0);
        return c;
    }

    static void promise39_dayScore_edge_penaltyEqualToTheQuotient(Due due) {
        GlidingContest c = restricted();
        c.fly(0, Fixture.EAST, 1);
        due.is(c.dayScore(0), 10);
        c.fly(0, Fixture.WEST, 1);
        c.fly(0, Fixture.EAST, 1);
        due.is(c.penalty(0), 30);
        due.is(c.dayScore(0), 0);
        c.fly(0, Fixture.EAST, 1);
        due.is(c.penalty(0), 40);
        due.is(c.dayScore(0), 0);
        c.fly(0, Fixture.EAST, 1);
        due.is(c.dayScore(0), 10);
    }

    static void promise39_dayScore_edge_distanceQuotientIsRoundedDown(Due due) {
        GlidingContest c = flying();
        c.fly(0, Fixture.EAST, 1);
        due.is(c.dayScore(0), 55);
        c.fly(0, Fixture.EAST, 6);
        due.is(c.dayScore(0), 388);
    }

    static void promise39_dayScore_edge_minutesQuotientIsRoundedDown(Due due) {
        GlidingContest c = finished();
        c.addThermal(10, 10, 1);
        c.launch(1);
        c.climb(1, 1);
        Fixture.finish(c, 1);
        due.is(c.dayScore(1), 1000 + 473);
    }

    static void promise39_dayScore_edge_onlyFinishedPilotHasTheLeastMinutes(Due due) {
        GlidingContest c = finished();
        due.is(c.dayScore(0), 1500);
    }

    static void promise39_dayScore_edge_leastMinutesOfFinishedPilotsAlone(Due due) {
        GlidingContest c = Fixture.withTask(60, 20, 20);
        c.addThermal(10, 10, 1);
        c.launch(0);
        c.climb(0, 30);
        Fixture.finish(c, 0);
        c.launch(1);
        c.fly(1, Fixture.EAST, 1);
        c.launch(2);
        c.fly(2, Fixture.EAST, 5);
        c.fly(2, Fixture.SOUTH, 10);
        due.is(c.dayScore(0), 1500);
    }

    static void promise39_dayScore_edge_laterFasterPilotLowersIt(Due due) {
        GlidingContest c = Fixture.withTask(60, 60);
        c.launch(0);
        c.fly(0, Fixture.WEST, 1);
        c.fly(0, Fixture.EAST, 1);
        Fixture.finish(c, 0);
        due.is(c.dayScore(0), 1500);
        c.launch(1);
        Fixture.finish(c, 1);
        due.is(c.dayScore(0), 1450);
        due.is(c.dayScore(1), 1500);
    }

    static void promise39_dayScore_edge_penaltyOfAFinishedPilot(Due due) {
        GlidingContest c = Fixture.withTask(60);
        c.addArea(0, 0, 60, 60);
        c.launch(0);
        Fixture.finish(c, 0);
        due.is(c.dayScore(0), 1500 - 180);
    }

    static void promise39_dayScore_edge_penaltyIsTakenFromTheSum(Due due) {
        GlidingContest c = new GlidingContest();
        Fixture.runText(c, "point 1 0;point 2 0;task 0;task 1;pilot 60;area 0 0 60 60");
        c.addThermal(1, 1, 5);
        c.setCloudBase(3000);
        c.launch(0);
        for (int i = 0; i < 55; i++) {
            c.climb(0, 1);
            c.fly(0, Fixture.NORTH, 1);
            c.fly(0, Fixture.SOUTH, 1);
        }
        due.is(c.penalty(0), 1100);
        due.is(c.dayScore(0), 0);
        c.fly(0, Fixture.EAST, 1);
        due.is(c.dayScore(0), 1500 - 1110);
    }

    // ---- promise 40

    static void promise40_total_index_noSuchPilot(Due due) {
        GlidingContest c = finished();
        for (int pilot : noPilots(c)) {
            due.index(() -> c.total(pilot));
        }
        GlidingContest none = new GlidingContest();
        due.index(() -> none.total(0));
    }

    static void promise40_total_edge_initiallyNone(Due due) {
        due.is(Fixture.withTask(20).total(0), 0L);
    }

    static void promise40_total_edge_withoutThePresentDay(Due due) {
        GlidingContest c = finished();
        due.is(c.total(0), 0L);
        c.endDay();
        due.is(c.total(0), 1500L);
        c.launch(0);
        Fixture.finish(c, 0);
        due.is(c.total(0), 1500L);
        c.endDay();
        due.is(c.total(0), 3000L);
    }

    /** 100 days: far more than a short or a char would hold. */
    static void promise40_total_full_manyDays(Due due) {
        GlidingContest c = new GlidingContest();
        c.addPoint(0, 0);
        c.addPoint(1, 0);
        c.addTaskPoint(0);
        c.addTaskPoint(1);
        c.addPilot(20);
        for (int day = 0; day < 100; day++) {
            c.launch(0);
            c.fly(0, Fixture.EAST, 1);
            c.endDay();
        }
        due.is(c.total(0), 150000L);
    }

    // ---- promise 41

    private static String ranking(GlidingContest c) {
        StringBuilder ranking = new StringBuilder();
        for (int rank = 0; rank < c.pilotCount(); rank++) {
            ranking.append(c.pilotAtRank(rank));
        }
        return ranking.toString();
    }

    static void promise41_pilotAtRank_noElement_noPilots(Due due) {
        GlidingContest c = new GlidingContest();
        due.noElement(() -> c.pilotAtRank(0));
    }

    static void promise41_pilotAtRank_noElement_negative(Due due) {
        GlidingContest c = finished();
        due.noElement(() -> c.pilotAtRank(-1));
        due.noElement(() -> c.pilotAtRank(LEAST));
    }

    static void promise41_pilotAtRank_noElement_notLessThanThePilots(Due due) {
        GlidingContest c = finished();
        due.noElement(() -> c.pilotAtRank(2));
        due.noElement(() -> c.pilotAtRank(GREATEST));
        GlidingContest six = Fixture.withTask(20, 20, 20, 20, 20, 20);
        due.noElement(() -> six.pilotAtRank(6));
    }

    static void promise41_pilotAtRank_edge_firstAndLast(Due due) {
        GlidingContest c = Fixture.withTask(60, 60, 60, 60, 60, 60);
        c.launch(5);
        Fixture.finish(c, 5);
        due.is(c.pilotAtRank(0), 5);
        due.is(c.pilotAtRank(5), 4);
        due.is(ranking(c), "501234");
    }

    static void promise41_pilotAtRank_edge_onePilot(Due due) {
        GlidingContest c = Fixture.withTask(60);
        due.is(c.pilotAtRank(0), 0);
        due.noElement(() -> c.pilotAtRank(1));
    }

    static void promise41_pilotAtRank_edge_equalByIndex(Due due) {
        due.is(ranking(Fixture.withTask(60, 60, 60, 60, 60, 60)), "012345");
    }

    static void promise41_pilotAtRank_edge_scoreBeforePenalty(Due due) {
        GlidingContest c = Fixture.withTask(60, 60);
        c.addArea(11, 10, 11, 10);
        c.launch(0);
        c.launch(1);
        c.fly(1, Fixture.EAST, 3);
        due.is(c.penalty(1), 10);
        due.is(ranking(c), "10");
    }

    static void promise41_pilotAtRank_edge_equalSumByPenalty(Due due) {
        GlidingContest c = Fixture.withTask(60, 60);
        c.addArea(9, 10, 9, 10);
        c.launch(0);
        c.fly(0, Fixture.WEST, 1);
        due.is(c.dayScore(0), 0);
        due.is(ranking(c), "10");
    }

    static void promise41_pilotAtRank_edge_waitingEqualsLaunchedWithoutPenalty(Due due) {
        GlidingContest c = Fixture.withTask(60, 60, 60);
        c.launch(0);
        due.is(ranking(c), "012");
        c.launch(2);
        due.is(ranking(c), "012");
    }

    static void promise41_pilotAtRank_edge_waitingPilotHasNoPenalty(Due due) {
        GlidingContest c = Fixture.withTask(60, 60, 60);
        c.addArea(9, 10, 9, 10);
        c.launch(0);
        c.fly(0, Fixture.WEST, 1);
        c.launch(2);
        due.is(ranking(c), "120");
        c.fly(0, Fixture.SOUTH, 10);
        c.fly(0, Fixture.NORTH, 60);
        due.is(c.isLanded(0), true);
        c.fly(2, Fixture.SOUTH, 10);
        c.fly(2, Fixture.NORTH, 60);
        c.endDay();
        due.is(ranking(c), "012");
    }

    static void promise41_pilotAtRank_edge_totalAndDayScoreAreAdded(Due due) {
        GlidingContest c = finished();
        c.endDay();
        due.is(ranking(c), "01");
        c.launch(1);
        Fixture.finish(c, 1);
        due.is(ranking(c), "01");
        c.launch(0);
        due.is(ranking(c), "01");
        c.fly(0, Fixture.SOUTH, 10);
        c.fly(0, Fixture.NORTH, 60);
        c.endDay();
        due.is(c.total(0), c.total(1));
        c.launch(1);
        c.fly(1, Fixture.EAST, 1);
        due.is(ranking(c), "10");
    }

    // ---- promise 42

    static void promise42_days_edge_initiallyNone(Due due) {
        due.is(new GlidingContest().days(), 0);
    }

    static void promise42_days_edge_onlyEndedDays(Due due) {
        GlidingContest c = finished();
        due.is(c.days(), 0);
        c.endDay();
        due.is(c.days(), 1);
        due.state(c::endDay);
        due.is(c.days(), 1);
        c.launch(0);
        due.state(c::endDay);
        due.is(c.days(), 1);
        c.undo();
        c.undo();
        due.is(c.days(), 0);
    }

    static void promise42_days_full_manyDays(Due due) {
        GlidingContest c = Fixture.withTask(20);
        for (int day = 1; day <= 130; day++) {
            c.launch(0);
            Fixture.land(c, 0);
            c.endDay();
        }
        due.is(c.days(), 130);
    }

    // ---- promise 43

    static void promise43_speed_index_noSuchPilot(Due due) {
        GlidingContest c = finished();
        for (int pilot : noPilots(c)) {
            due.index(() -> c.speed(pilot));
        }
        GlidingContest none = new GlidingContest();
        due.index(() -> none.speed(0));
    }

    static void promise43_speed_state_waiting(Due due) {
        GlidingContest c = finished();
        due.state(() -> c.speed(1));
        c.endDay();
        due.state(() -> c.speed(0));
    }

    static void promise43_speed_state_flying(Due due) {
        GlidingContest c = flying();
        due.state(() -> c.speed(0));
    }

    static void promise43_speed_state_landed(Due due) {
        GlidingContest c = Fixture.withTask(20);
        c.launch(0);
        Fixture.land(c, 0);
        due.state(() -> c.speed(0));
    }

    static void promise43_speed_edge_straightAhead(Due due) {
        due.is(finished().speed(0), 1.0f);
    }

    static void promise43_speed_edge_oneKilometreInOneMinute(Due due) {
        GlidingContest c = new GlidingContest();
        Fixture.runText(c, "point 1 1;point 1 2;task 0;task 1;pilot 20;launch 0;fly 0 n9");
        due.is(c.minutes(0), 1);
        due.is(c.speed(0), 1.0f);
    }

    static void promise43_speed_edge_quotientOfFloats(Due due) {
        GlidingContest c = Fixture.withTask(60);
        c.addThermal(10, 10, 1);
        c.launch(0);
        c.climb(0, 30);
        Fixture.finish(c, 0);
        due.is(c.speed(0), 18f / 48f);
        GlidingContest uneven = Fixture.withTask(60);
        uneven.addThermal(10, 10, 1);
        uneven.launch(0);
        uneven.climb(0, 1);
        Fixture.finish(uneven, 0);
        due.is(uneven.speed(0), 18f / 19f);
    }

    // ---- promise 44

    static void promise44_meanScore_arithmetic_noPilots(Due due) {
        due.arithmetic(new GlidingContest()::meanScore);
        due.arithmetic(Fixture.withTask()::meanScore);
        GlidingContest c = new GlidingContest();
        c.addPilot(20);
        c.undo();
        due.arithmetic(c::meanScore);
    }

    static void promise44_meanScore_edge_onePilot(Due due) {
        GlidingContest c = Fixture.withTask(60);
        due.is(c.meanScore(), 0.0);
        c.launch(0);
        Fixture.finish(c, 0);
        due.is(c.meanScore(), 1500.0);
    }

    static void promise44_meanScore_edge_waitingPilotsCount(Due due) {
        due.is(finished().meanScore(), 750.0);
    }

    static void promise44_meanScore_edge_quotientOfDoubles(Due due) {
        GlidingContest c = Fixture.withTask(60, 60, 60, 60, 60, 60);
        c.launch(0);
        c.fly(0, Fixture.EAST, 1);
        due.is(c.meanScore(), 55.0 / 6.0);
        GlidingContest half = Fixture.withTask(60, 60);
        half.launch(0);
        half.fly(0, Fixture.EAST, 1);
        due.is(half.meanScore(), 27.5);
    }

    static void promise44_meanScore_edge_totalsDoNotCount(Due due) {
        GlidingContest c = finished();
        c.endDay();
        due.is(c.meanScore(), 0.0);
    }

    // ---- promise 45

    static void promise45_isConsistent_empty_newObject(Due due) {
        due.is(new GlidingContest().isConsistent(), true);
    }

    static void promise45_isConsistent_full_mapTaskAndPilots(Due due) {
        GlidingContest c = new GlidingContest();
        Fixture.runText(c, "point 0 0;point 60 60;task 0;task 1;task 0;task 1;task 0");
        c.addTaskPoint(1);
        c.addArea(0, 0, 30, 30);
        c.addArea(30, 30, 60, 60);
        c.addArea(10, 20, 40, 60);
        for (int pilot = 0; pilot < 6; pilot++) {
            c.addPilot(20 + 8 * pilot);
            c.launch(pilot);
        }
        due.is(c.isConsistent(), true);
    }

    /** Each height and each distance around the one at which a pilot just gets to the finish. */
    static void promise45_isConsistent_edge_justFinishing(Due due) {
        for (int kilometres = 18; kilometres <= 23; kilometres++) {
            for (int base = 1000; base <= 1050; base += 25) {
                GlidingContest c = new GlidingContest();
                c.addPoint(0, 0);
                c.addPoint(kilometres, 0);
                c.addTaskPoint(0);
                c.addTaskPoint(1);
                c.addPilot(20);
                c.addThermal(0, 0, 5);
                c.setCloudBase(base);
                c.launch(0);
                c.climb(0, 1);
                due.is(c.isConsistent(), true);
            }
        }
    }

    static void promise45_isConsistent_edge_farOffTheTask(Due due) {
        GlidingContest c = flying();
        c.fly(0, Fixture.WEST, 10);
        due.is(c.isConsistent(), true);
        c.fly(0, Fixture.NORTH, 50);
        due.is(c.isConsistent(), true);
    }

    static void promise45_isConsistent_edge_finishedAndAfterTheDay(Due due) {
        GlidingContest c = finished();
        due.is(c.isConsistent(), true);
        c.endDay();
        due.is(c.isConsistent(), true);
        c.clearTask();
        due.is(c.isConsistent(), true);
    }
}
