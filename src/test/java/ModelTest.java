import java.lang.reflect.InvocationTargetException;
import java.lang.reflect.Method;
import java.util.Arrays;

/** Long runs of calls on GlidingContest and on the model: each answer has to be the same. */
public final class ModelTest {
    private static final Due due = new Due("ModelTest");
    private static final int RUNS = 400;
    private static final int CHANGES = 110;
    private static final String[] PILOT_QUERIES = {"isFlying", "isLanded", "isFinished", "sink",
        "x", "y", "height", "minutes", "penalty", "reached", "remainingDistance", "canFinish",
        "canFinishBySimulation", "achievedDistance", "dayScore", "total", "speed", "writePilot"};
    private static final String[] PLAIN_QUERIES = {"pointCount", "taskLength", "taskDistance",
        "cloudBase", "pilotCount", "isPlanning", "days", "meanScore", "isConsistent",
        "errorPosition", "failedCommand"};

    private long seed;
    private final GlidingContest contest = new GlidingContest();
    private final Model model = new Model();
    private final StringBuilder calls = new StringBuilder();
    private int made = 0;
    private boolean agrees = true;

    private ModelTest(int run) {
        seed = run * 7919L + 1;
    }

    public static void main(String[] args) {
        for (int run = 0; run < RUNS; run++) {
            new ModelTest(run).play(run);
        }
        due.finish();
    }

    /** The same numbers in every session: a linear congruential sequence. */
    private int pick(int bound) {
        seed = seed * 6364136223846793005L + 1442695040888963407L;
        return (int) ((seed >>> 33) % bound);
    }

    /** Mostly a value of the range, at times one beside it. */
    private int near(int least, int greatest) {
        switch (pick(24)) {
            case 0:
                return least - 1;
            case 1:
                return greatest + 1;
            case 2:
                return least;
            case 3:
                return greatest;
            default:
                return least + pick(greatest - least + 1);
        }
    }

    private void play(int run) {
        if (run % 4 != 0) {
            prepare();
        }
        for (int change = 0; change < CHANGES && agrees && made < 400; change++) {
            changeSomething(run);
            askSomething();
        }
        if (made < 430) {
            askAllOfPilot();
        }
        due.answer("run " + run + calls, agrees, true);
    }

    private void prepare() {
        for (int point = 0; point < 4; point++) {
            call("addPoint", 20 + pick(16), 20 + pick(16));
        }
        for (int stop = 0; stop < 3; stop++) {
            call("addTaskPoint", (stop + pick(2)) % 4);
        }
        for (int pilot = 0; pilot < 3; pilot++) {
            call("addPilot", 20 + pick(41));
        }
    }

    private int pilot() {
        return pick(20) == 0 ? near(0, 5) : pick(3);
    }

    private void changeSomething(int run) {
        switch (pick(26)) {
            case 0, 1:
                call("addPoint", near(15, 40), near(15, 40));
                break;
            case 2, 3:
                call("addTaskPoint", near(0, 4));
                break;
            case 4:
                callRarely("clearTask");
                break;
            case 5:
                call("addThermal", near(15, 40), near(15, 40), near(1, 5));
                break;
            case 6:
                call("setCloudBase", near(500, 3000));
                break;
            case 7:
                callArea();
                break;
            case 8:
                call("addPilot", near(20, 60));
                break;
            case 9, 10, 11:
                call("launch", pilot());
                break;
            case 12, 13, 14:
                flyToNext();
                break;
            case 15, 16:
                call("fly", pilot(), near(0, 3), near(1, run % 2 == 0 ? 60 : 6));
                break;
            case 17, 18:
                call("climb", pilot(), near(1, 30));
                break;
            case 19, 20:
                call("endDay");
                break;
            case 21:
                typeProgram();
                break;
            case 22, 23:
                call("undo");
                break;
            case 24:
                callRarely("save");
                break;
            default:
                callRarely("restore");
                break;
        }
    }

    private void callRarely(String name) {
        if (pick(4) == 0) {
            call(name);
        }
    }

    private void callArea() {
        int west = near(0, 60);
        int south = near(0, 60);
        call("addArea", west, south, near(Math.min(west, 60), 60),
                near(Math.min(south, 60), 60));
    }

    /** Without aim a pilot hardly ever finishes. */
    private void flyToNext() {
        int pilot = pilot();
        if (!(model.answer("reached", new int[] {pilot}) instanceof Integer reached)
                || !(model.answer("remainingDistance", new int[] {pilot}) instanceof Integer left)) {
            return;
        }
        for (int direction = 0; direction < 4; direction++) {
            call("fly", pilot, direction, 1);
            Object now = model.answer("remainingDistance", new int[] {pilot});
            if (now instanceof Integer closer && closer < left) {
                call("fly", pilot, direction, 1 + pick(12));
                return;
            }
        }
    }

    private void typeProgram() {
        String[] commands = {"point %d %d", "task %d", "thermal %d %d %d", "area %d %d %d %d",
            "pilot %d", "launch %d", "fly %d n%d", "fly %d e%d", "fly %d s%d", "fly %d w%d",
            "climb %d %d", "end", "launch 0", "launch 1", "fly 0 e3", "fly 1 s2"};
        StringBuilder text = new StringBuilder();
        int count = 1 + pick(4);
        for (int i = 0; i < count; i++) {
            text.append(i == 0 ? "" : ";").append(String.format(commands[pick(commands.length)],
                    pick(4), 1 + pick(40), 1 + pick(60), pick(60)));
        }
        if (pick(3) == 0) {
            text.setCharAt(pick(text.length()), "0 ;antw".charAt(pick(7)));
        }
        int length = Math.min(text.length(), pick(6) == 0 ? 60 : 30);
        for (int i = 0; i < length; i++) {
            call("append", text.charAt(i));
        }
        call("run");
    }

    private void askSomething() {
        switch (pick(6)) {
            case 0:
                call("pilotAtRank", near(0, 3));
                break;
            case 1:
                call("writePilot", pilot());
                call("outputAt", near(0, 20));
                break;
            case 2:
                call("strongestThermal", near(15, 40), near(15, 40));
                call("isRestricted", near(0, 60), near(0, 60));
                break;
            case 3:
                int y = near(0, 60);
                call("restrictedInRow", y);
                call("restrictedInRowByRanges", y);
                break;
            case 4:
                call("distance", near(0, 5), near(0, 5));
                call("taskPoint", near(0, 4));
                call("writeTask");
                break;
            default:
                call(PLAIN_QUERIES[pick(PLAIN_QUERIES.length)]);
                break;
        }
        call(PILOT_QUERIES[pick(PILOT_QUERIES.length)], pilot());
    }

    private void askAllOfPilot() {
        int pilot = pilot();
        for (String query : PILOT_QUERIES) {
            call(query, pilot);
        }
        for (String query : PLAIN_QUERIES) {
            call(query);
        }
        for (int rank = 0; rank < 6; rank++) {
            call("pilotAtRank", rank);
        }
    }

    private void call(String name, int... a) {
        if (!agrees) {
            return;
        }
        made++;
        Object want = model.answer(name, a);
        Object got = answer(name, a);
        calls.append("\n  ").append(name).append(Arrays.toString(a)).append(" -> ").append(want);
        if (!want.equals(got)) {
            calls.append(", but answered ").append(got);
            agrees = false;
        }
    }

    private Object answer(String name, int[] a) {
        Object[] arguments = new Object[a.length];
        for (int i = 0; i < a.length; i++) {
            arguments[i] = name.equals("append") ? (Object) (char) a[i] : (Object) a[i];
        }
        try {
            Object answer = method(name).invoke(contest, arguments);
            return answer == null ? "" : answer;
        } catch (InvocationTargetException e) {
            return e.getCause().getClass().getSimpleName();
        } catch (IllegalAccessException e) {
            return "a hidden method";
        }
    }

    private static Method method(String name) {
        for (Method method : GlidingContest.class.getMethods()) {
            if (method.getName().equals(name)) {
                return method;
            }
        }
        throw new AssertionError("no method " + name);
    }
}
