/** Promises 38 to 45: queries about scores. */
public final class ScoreTest {
    private static final Due due = new Due("ScoreTest");

    public static void main(String[] args) {
        achievedDistance();
        achievedOfLanded();
        dayScoreOfFlying();
        dayScoreOfFinished();
        dayScoreWithPenalty();
        total();
        ranksByScore();
        ranksByPenaltyAndIndex();
        ranksOfTotals();
        ranksForgetPenalties();
        days();
        speed();
        meanScore();
        isConsistent();
        noSuchPilot();
        due.finish();
    }

    private static void achievedDistance() {
        GlidingContest c = Fixture.withTask(60);
        due.answer("waiting", c.achievedDistance(0), 0);
        c.launch(0);
        due.answer("at the start", c.achievedDistance(0), 0);
        c.fly(0, Fixture.WEST, 2);
        due.answer("farther off than the start", c.achievedDistance(0), 0);
        c.fly(0, Fixture.EAST, 9);
        due.answer("7 kilometres on", c.achievedDistance(0), 7);
        c.fly(0, Fixture.NORTH, 1);
        due.answer("beside the leg", c.achievedDistance(0), 6);
        c.fly(0, Fixture.SOUTH, 1);
        c.fly(0, Fixture.EAST, 3);
        due.answer("at the second turn point", c.achievedDistance(0), 10);
        c.fly(0, Fixture.SOUTH, 3);
        due.answer("away from the finish", c.achievedDistance(0), 10);
        c.fly(0, Fixture.NORTH, 8);
        due.answer("on the last leg", c.achievedDistance(0), 15);
        c.fly(0, Fixture.NORTH, 3);
        due.answer("finished", c.achievedDistance(0), 18);
    }

    private static void achievedOfLanded() {
        GlidingContest c = Fixture.withTask(20);
        c.launch(0);
        c.fly(0, Fixture.SOUTH, 5);
        c.fly(0, Fixture.EAST, 8);
        c.fly(0, Fixture.NORTH, 5);
        due.answer("flying", c.achievedDistance(0), 8);
        c.fly(0, Fixture.WEST, 1);
        c.fly(0, Fixture.WEST, 1);
        due.answer("landed", c.isLanded(0), true);
        due.answer("achieved by landing", c.achievedDistance(0), 6);
        due.answer("its score", c.dayScore(0), 333);
    }

    private static void dayScoreOfFlying() {
        GlidingContest c = Fixture.withTask(60);
        due.answer("waiting", c.dayScore(0), 0);
        c.launch(0);
        due.answer("launched", c.dayScore(0), 0);
        c.fly(0, Fixture.EAST, 1);
        due.answer("1 of 18, rounded down", c.dayScore(0), 55);
        c.fly(0, Fixture.EAST, 10);
        due.answer("past the turn point", c.dayScore(0), 1000 * 10 / 18);
    }

    /** 18 kilometres in 18 minutes, and the same with some minutes more. */
    private static void dayScoreOfFinished() {
        GlidingContest c = Fixture.withTask(60, 60, 60);
        c.launch(1);
        c.fly(1, Fixture.WEST, 1);
        c.fly(1, Fixture.EAST, 1);
        Fixture.finish(c, 1);
        due.answer("the only one finished", c.dayScore(1), 1500);
        c.launch(0);
        due.answer("a flying one has no least minutes", c.dayScore(1), 1500);
        Fixture.finish(c, 0);
        due.answer("the fastest", c.dayScore(0), 1500);
        due.answer("the slower one", c.dayScore(1), 1000 + 450);
        c.launch(2);
        c.addThermal(10, 10, 1);
        c.climb(2, 1);
        Fixture.finish(c, 2);
        due.answer("rounded down", c.dayScore(2), 1000 + 9000 / 19);
    }

    private static void dayScoreWithPenalty() {
        GlidingContest c = Fixture.withTask(60, 60);
        c.addArea(11, 10, 12, 10);
        c.launch(0);
        c.fly(0, Fixture.EAST, 1);
        due.answer("55 less 10", c.dayScore(0), 45);
        c.fly(0, Fixture.WEST, 1);
        due.answer("at least 0", c.dayScore(0), 0);
        c.fly(0, Fixture.EAST, 10);
        c.fly(0, Fixture.NORTH, 8);
        due.answer("finished with 3 kilometres of area", c.dayScore(0), 1500 - 30);
        c.launch(1);
        c.fly(1, Fixture.SOUTH, 1);
        for (int i = 0; i < 8; i++) {
            c.fly(1, Fixture.EAST, 2);
            c.fly(1, Fixture.NORTH, 1);
            c.fly(1, Fixture.WEST, 2);
            c.fly(1, Fixture.SOUTH, 1);
        }
        due.answer("a large penalty", c.penalty(1), 160);
        due.answer("still 0", c.dayScore(1), 0);
    }

    private static void total() {
        GlidingContest c = Fixture.withTask(60);
        c.launch(0);
        Fixture.finish(c, 0);
        due.answer("without the present day", c.total(0), 0L);
        for (int day = 1; day <= 20; day++) {
            c.endDay();
            due.answer("total of day " + day, c.total(0), 1500L * day);
            c.launch(0);
            Fixture.finish(c, 0);
        }
    }

    private static String ranking(GlidingContest c) {
        StringBuilder ranking = new StringBuilder();
        for (int rank = 0; rank < c.pilotCount(); rank++) {
            ranking.append(c.pilotAtRank(rank));
        }
        return ranking.toString();
    }

    private static void ranksByScore() {
        GlidingContest c = new GlidingContest();
        due.thrown("rank 0 without pilots", Fixture.NO_ELEMENT, () -> c.pilotAtRank(0));
        GlidingContest six = Fixture.withTask(60, 60, 60, 60, 60, 60);
        due.answer("all alike", ranking(six), "012345");
        for (int pilot = 0; pilot < 6; pilot++) {
            six.launch(pilot);
        }
        int[] kilometres = {3, 1, 5, 0, 3, 2};
        for (int pilot = 0; pilot < 6; pilot++) {
            if (kilometres[pilot] > 0) {
                six.fly(pilot, Fixture.EAST, kilometres[pilot]);
            }
        }
        due.answer("by score, then index", ranking(six), "204513");
        due.thrown("rank -1", Fixture.NO_ELEMENT, () -> six.pilotAtRank(-1));
        due.thrown("rank 6", Fixture.NO_ELEMENT, () -> six.pilotAtRank(6));
    }

    /** Pilots whose scores are all 0: only penalty and index tell them apart. */
    private static void ranksByPenaltyAndIndex() {
        GlidingContest c = Fixture.withTask(60, 60, 60, 60);
        c.addArea(9, 10, 9, 10);
        c.launch(0);
        c.fly(0, Fixture.WEST, 1);
        due.answer("the penalty counts", ranking(c), "1230");
        c.launch(1);
        c.fly(1, Fixture.WEST, 1);
        c.fly(1, Fixture.EAST, 1);
        c.fly(1, Fixture.WEST, 1);
        due.answer("the greater penalty is behind", ranking(c), "2301");
        c.launch(2);
        c.fly(2, Fixture.WEST, 1);
        due.answer("a waiting one has none", ranking(c), "3021");
    }

    private static void ranksOfTotals() {
        GlidingContest c = Fixture.withTask(60, 60);
        c.launch(1);
        Fixture.finish(c, 1);
        c.endDay();
        due.answer("by total", ranking(c), "10");
        c.launch(0);
        c.fly(0, Fixture.EAST, 9);
        due.answer("total and a part of a day", ranking(c), "10");
        c.fly(0, Fixture.EAST, 1);
        c.fly(0, Fixture.NORTH, 8);
        due.answer("total and day score are added", ranking(c), "01");
        c.endDay();
        c.addArea(9, 10, 9, 10);
        c.launch(0);
        c.fly(0, Fixture.WEST, 1);
        due.answer("equal sums, a penalty today", ranking(c), "10");
    }

    private static void ranksForgetPenalties() {
        GlidingContest c = Fixture.withTask(20, 20);
        c.addArea(9, 10, 9, 10);
        c.launch(0);
        c.fly(0, Fixture.WEST, 1);
        due.answer("a penalty today", ranking(c), "10");
        Fixture.land(c, 0);
        c.endDay();
        due.answer("no total", c.total(0), 0L);
        due.answer("the penalty of a past day", ranking(c), "01");
    }

    private static void days() {
        GlidingContest c = Fixture.withTask(20);
        due.answer("days", c.days(), 0);
        for (int day = 1; day <= 3; day++) {
            c.launch(0);
            due.answer("days while flying", c.days(), day - 1);
            Fixture.land(c, 0);
            c.endDay();
            due.answer("days", c.days(), day);
        }
        c.undo();
        due.answer("days after undo", c.days(), 2);
    }

    private static void speed() {
        GlidingContest c = Fixture.withTask(60, 20);
        due.thrown("a waiting one", Fixture.STATE, () -> c.speed(0));
        c.addThermal(10, 10, 1);
        c.launch(0);
        c.launch(1);
        due.thrown("a flying one", Fixture.STATE, () -> c.speed(0));
        Fixture.land(c, 1);
        due.thrown("a landed one", Fixture.STATE, () -> c.speed(1));
        c.climb(0, 5);
        Fixture.finish(c, 0);
        due.answer("18 kilometres in 23 minutes", c.speed(0), 18f / 23f);
        c.endDay();
        due.thrown("after the day", Fixture.STATE, () -> c.speed(0));
        c.launch(0);
        Fixture.finish(c, 0);
        due.answer("18 kilometres in 18 minutes", c.speed(0), 1f);
    }

    private static void meanScore() {
        GlidingContest none = Fixture.withTask();
        due.thrown("meanScore without pilots", ArithmeticException.class, none::meanScore);
        GlidingContest c = Fixture.withTask(60, 60, 60);
        due.answer("all wait", c.meanScore(), 0.0);
        c.launch(0);
        Fixture.finish(c, 0);
        due.answer("1500 of three", c.meanScore(), 500.0);
        c.launch(1);
        c.fly(1, Fixture.EAST, 1);
        due.answer("1555 of three", c.meanScore(), 1555.0 / 3.0);
        c.fly(1, Fixture.WEST, 21 - 10);
        c.fly(1, Fixture.SOUTH, 10);
        c.fly(1, Fixture.NORTH, 60);
        c.endDay();
        due.answer("only the present day counts", c.meanScore(), 0.0);
    }

    private static void isConsistent() {
        GlidingContest c = new GlidingContest();
        due.answer("new", c.isConsistent(), true);
        GlidingContest full = Fixture.withTask(20, 33, 60);
        full.addArea(3, 10, 20, 12);
        full.addArea(0, 0, 4, 11);
        full.addArea(21, 5, 60, 60);
        for (int pilot = 0; pilot < 3; pilot++) {
            full.launch(pilot);
            full.fly(pilot, Fixture.NORTH, 9 - pilot);
            due.answer("while flying", full.isConsistent(), true);
        }
        Fixture.land(full, 0);
        full.fly(2, Fixture.SOUTH, 7);
        Fixture.finish(full, 2);
        due.answer("landed, flying and finished", full.isConsistent(), true);
        due.answer("finished", full.isFinished(2), true);
    }

    private static void noSuchPilot() {
        GlidingContest c = Fixture.withTask(20);
        for (int pilot : new int[] {-1, 1, 6, Integer.MIN_VALUE, Integer.MAX_VALUE}) {
            due.thrown("achievedDistance", Fixture.INDEX, () -> c.achievedDistance(pilot));
            due.thrown("dayScore", Fixture.INDEX, () -> c.dayScore(pilot));
            due.thrown("total", Fixture.INDEX, () -> c.total(pilot));
            due.thrown("speed", Fixture.INDEX, () -> c.speed(pilot));
            due.thrown("pilotAtRank", Fixture.NO_ELEMENT, () -> c.pilotAtRank(pilot));
        }
    }
}
