import java.util.function.IntConsumer;

/** Promises 23 to 37: queries about pilots. */
public final class PilotQueryTest {
    private static final Due due = new Due("PilotQueryTest");

    public static void main(String[] args) {
        pilotCount();
        isPlanning();
        phases();
        sink();
        flightData();
        reached();
        remainingDistance();
        canFinish();
        canFinishLeavesPilot();
        canFinishEverywhere();
        noSuchPilot();
        wrongPhase();
        due.finish();
    }

    private static void pilotCount() {
        GlidingContest c = new GlidingContest();
        due.answer("pilotCount", c.pilotCount(), 0);
        for (int i = 1; i <= 6; i++) {
            c.addPilot(20);
            due.answer("pilotCount", c.pilotCount(), i);
        }
    }

    private static void isPlanning() {
        GlidingContest c = Fixture.withTask();
        due.answer("without pilots", c.isPlanning(), true);
        c.addPilot(20);
        c.addPilot(30);
        due.answer("all wait", c.isPlanning(), true);
        c.launch(1);
        due.answer("one flies", c.isPlanning(), false);
        Fixture.finish(c, 1);
        due.answer("one has finished", c.isPlanning(), false);
        c.endDay();
        due.answer("after the day", c.isPlanning(), true);
        c.launch(0);
        Fixture.land(c, 0);
        due.answer("one has landed", c.isPlanning(), false);
    }

    private static String phaseOf(GlidingContest c, int pilot) {
        return (c.isFlying(pilot) ? "f" : "-") + (c.isLanded(pilot) ? "l" : "-")
                + (c.isFinished(pilot) ? "!" : "-");
    }

    private static void phases() {
        GlidingContest c = Fixture.withTask(20, 20);
        due.answer("waiting", phaseOf(c, 0), "---");
        c.launch(0);
        due.answer("flying", phaseOf(c, 0), "f--");
        due.answer("the other", phaseOf(c, 1), "---");
        c.launch(1);
        Fixture.land(c, 0);
        due.answer("landed", phaseOf(c, 0), "-l-");
        Fixture.finish(c, 1);
        due.answer("finished", phaseOf(c, 1), "--!");
        c.endDay();
        due.answer("waiting again", phaseOf(c, 0) + phaseOf(c, 1), "------");
    }

    private static void sink() {
        int[][] due20 = {{20, 50}, {21, 47}, {30, 33}, {33, 30}, {50, 20}, {59, 16}};
        GlidingContest c = new GlidingContest();
        for (int[] pair : due20) {
            int pilot = c.addPilot(pair[0]);
            due.answer("sink of ratio " + pair[0], c.sink(pilot), pair[1]);
        }
        GlidingContest best = new GlidingContest();
        best.addPilot(60);
        due.answer("sink of ratio 60", best.sink(0), 16);
    }

    private static void flightData() {
        GlidingContest c = Fixture.withTask(20, 50);
        c.addArea(11, 9, 13, 9);
        c.addThermal(13, 9, 2);
        c.launch(1);
        c.fly(1, Fixture.SOUTH, 1);
        c.fly(1, Fixture.EAST, 3);
        c.climb(1, 2);
        due.answer("x", c.x(1), 13);
        due.answer("y", c.y(1), 9);
        due.answer("height", c.height(1), 1000 - 4 * 20 + 240);
        due.answer("minutes", c.minutes(1), 6);
        due.answer("penalty", c.penalty(1), 30);
        c.launch(0);
        Fixture.land(c, 0);
        due.answer("x of a landed one", c.x(0), 10);
        due.answer("y of a landed one", c.y(0), 30);
        due.answer("height of a landed one", c.height(0), 0);
        due.answer("minutes of a landed one", c.minutes(0), 20);
        due.answer("penalty of a landed one", c.penalty(0), 0);
        c.fly(1, Fixture.NORTH, 1);
        c.fly(1, Fixture.EAST, 7);
        c.fly(1, Fixture.NORTH, 8);
        due.answer("x of a finished one", c.x(1), 20);
        due.answer("y of a finished one", c.y(1), 18);
        due.answer("height of a finished one", c.height(1), 1160 - 16 * 20);
        due.answer("minutes of a finished one", c.minutes(1), 22);
        due.answer("penalty of a finished one", c.penalty(1), 30);
    }

    private static void reached() {
        GlidingContest c = Fixture.withTask(30);
        due.answer("waiting", c.reached(0), 0);
        c.launch(0);
        due.answer("launched", c.reached(0), 1);
        c.fly(0, Fixture.EAST, 9);
        due.answer("a kilometre before", c.reached(0), 1);
        c.fly(0, Fixture.EAST, 1);
        due.answer("at the turn point", c.reached(0), 2);
        c.fly(0, Fixture.NORTH, 8);
        due.answer("at the finish", c.reached(0), 3);
        c.endDay();
        due.answer("after the day", c.reached(0), 0);
    }

    private static void remainingDistance() {
        GlidingContest c = Fixture.withTask(30);
        c.launch(0);
        due.answer("at the start", c.remainingDistance(0), 18);
        c.fly(0, Fixture.WEST, 2);
        c.fly(0, Fixture.SOUTH, 3);
        due.answer("off the task", c.remainingDistance(0), 23);
        c.fly(0, Fixture.NORTH, 3);
        c.fly(0, Fixture.EAST, 12);
        due.answer("at the second turn point", c.remainingDistance(0), 8);
        c.fly(0, Fixture.NORTH, 7);
        due.answer("before the finish", c.remainingDistance(0), 1);
    }

    private static void bothForecasts(String when, GlidingContest c, boolean want) {
        due.answer("canFinish " + when, c.canFinish(0), want);
        due.answer("canFinishBySimulation " + when, c.canFinishBySimulation(0), want);
    }

    /** A straight task of some length along y = 0, for a pilot of ratio 20, who sinks 50. */
    private static GlidingContest straight(int length) {
        GlidingContest c = new GlidingContest();
        c.addPoint(0, 0);
        c.addPoint(length, 0);
        c.addTaskPoint(0);
        c.addTaskPoint(1);
        c.addPilot(20);
        c.launch(0);
        return c;
    }

    private static void canFinish() {
        bothForecasts("with height to spare", straight(19), true);
        bothForecasts("at height 0", straight(20), true);
        GlidingContest tooFar = straight(21);
        bothForecasts("a kilometre too far", tooFar, false);
        tooFar.addThermal(0, 0, 1);
        tooFar.climb(0, 1);
        bothForecasts("after a climb", tooFar, true);
        tooFar.fly(0, Fixture.NORTH, 1);
        bothForecasts("after a kilometre astray", tooFar, false);
        GlidingContest exact = straight(21);
        exact.setCloudBase(1050);
        exact.addThermal(0, 0, 5);
        exact.climb(0, 1);
        bothForecasts("21 kilometres with 1050 metres", exact, true);
        GlidingContest uneven = straight(21);
        uneven.setCloudBase(1001);
        uneven.addThermal(0, 0, 5);
        uneven.climb(0, 1);
        bothForecasts("21 kilometres with 1001 metres", uneven, true);
    }

    private static void canFinishLeavesPilot() {
        GlidingContest c = Fixture.withTask(20);
        c.addArea(0, 0, 60, 60);
        c.launch(0);
        c.fly(0, Fixture.NORTH, 1);
        String before = Fixture.pilotLine(c, 0);
        bothForecasts("over an area", c, true);
        due.answer("the pilot stays", Fixture.pilotLine(c, 0), before);
        due.answer("the penalty stays", c.penalty(0), 10);
        due.answer("the minutes stay", c.minutes(0), 1);
    }

    /** Wherever the pilot goes, both ways give the answer that the height allows. */
    private static void canFinishEverywhere() {
        GlidingContest c = Fixture.withTask(37);
        c.launch(0);
        int[] way = {0, 0, 3, 2, 2, 2, 1, 1, 0, 3, 1, 1, 1, 1, 1, 1, 1, 1, 1, 2, 2, 0, 3, 3};
        for (int direction : way) {
            c.fly(0, direction, 1);
            if (!c.isFlying(0)) {
                break;
            }
            int needed = (c.remainingDistance(0) - 1) * c.sink(0);
            bothForecasts("after a way", c, c.height(0) > needed);
        }
        due.answer("still flying", c.isFlying(0), true);
    }

    private static void noPilot(String call, GlidingContest c, IntConsumer action) {
        due.thrown(call + " of pilot -1", Fixture.INDEX, () -> action.accept(-1));
        due.thrown(call + " of the next pilot", Fixture.INDEX,
                () -> action.accept(c.pilotCount()));
        due.thrown(call + " of a far pilot", Fixture.INDEX,
                () -> action.accept(Integer.MAX_VALUE));
    }

    private static void noSuchPilot() {
        GlidingContest none = new GlidingContest();
        GlidingContest two = Fixture.withTask(20, 30);
        two.launch(1);
        for (GlidingContest c : new GlidingContest[] {none, two}) {
            noPilot("isFlying", c, c::isFlying);
            noPilot("isLanded", c, c::isLanded);
            noPilot("isFinished", c, c::isFinished);
            noPilot("sink", c, c::sink);
            noPilot("x", c, c::x);
            noPilot("y", c, c::y);
            noPilot("height", c, c::height);
            noPilot("minutes", c, c::minutes);
            noPilot("penalty", c, c::penalty);
            noPilot("reached", c, c::reached);
            noPilot("remainingDistance", c, c::remainingDistance);
            noPilot("canFinish", c, c::canFinish);
            noPilot("canFinishBySimulation", c, c::canFinishBySimulation);
        }
    }

    private static void wrongPhase() {
        GlidingContest c = Fixture.withTask(20, 20, 20);
        c.launch(1);
        c.launch(2);
        Fixture.land(c, 1);
        Fixture.finish(c, 2);
        due.thrown("x of a waiting one", Fixture.STATE, () -> c.x(0));
        due.thrown("y of a waiting one", Fixture.STATE, () -> c.y(0));
        due.thrown("height of a waiting one", Fixture.STATE, () -> c.height(0));
        due.thrown("minutes of a waiting one", Fixture.STATE, () -> c.minutes(0));
        due.thrown("penalty of a waiting one", Fixture.STATE, () -> c.penalty(0));
        for (int pilot = 0; pilot < 3; pilot++) {
            int one = pilot;
            due.thrown("remainingDistance " + one, Fixture.STATE, () -> c.remainingDistance(one));
            due.thrown("canFinish " + one, Fixture.STATE, () -> c.canFinish(one));
            due.thrown("canFinishBySimulation " + one, Fixture.STATE,
                    () -> c.canFinishBySimulation(one));
        }
    }
}
