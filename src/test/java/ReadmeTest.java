import java.io.IOException;
import java.lang.reflect.Method;
import java.lang.reflect.Modifier;
import java.nio.file.Files;
import java.nio.file.Path;
import java.util.ArrayList;
import java.util.List;
import java.util.TreeSet;
import java.util.regex.Matcher;
import java.util.regex.Pattern;

/** What README.md shows holds: its example, its commands, and the calls that it names. */
public final class ReadmeTest {
    private static final Due due = new Due("ReadmeTest");

    public static void main(String[] args) throws IOException {
        example();
        exampleIsThatOfThePage();
        commands();
        program();
        callsAreNamed();
        due.finish();
    }

    /** The lines of the page's example, with the answers that its comments tell. */
    private static void example() {
        GlidingContest contest = new GlidingContest();
        contest.addPoint(10, 10);
        contest.addPoint(20, 10);
        contest.addTaskPoint(0);
        contest.addTaskPoint(1);
        int pilot = contest.addPilot(40);
        due.answer("the sink", contest.sink(pilot), 25);
        contest.launch(pilot);
        due.answer("the height", contest.height(pilot), 1000);
        contest.fly(pilot, 1, 10);
        due.answer("finished", contest.isFinished(pilot), true);
        int score = contest.dayScore(pilot);
        due.answer("the score", score, 1500);
        contest.endDay();
        long total = contest.total(pilot);
        due.answer("the total", total, 1500L);
        contest.undo();
        due.answer("the total after undo", contest.total(pilot), 0L);
        due.answer("the days after undo", contest.days(), 0);
    }

    private static void exampleIsThatOfThePage() throws IOException {
        List<String> here = new ArrayList<>();
        for (String line : Files.readAllLines(Path.of("src/test/java/ReadmeTest.java"))) {
            here.add(line.strip());
        }
        boolean inExample = false;
        int lines = 0;
        for (String line : Files.readAllLines(Path.of("README.md"))) {
            if (line.startsWith("```")) {
                inExample = line.equals("```java");
            } else if (inExample) {
                String code = line.replaceAll("//.*", "").strip();
                due.answer("the test has the line " + code, here.contains(code), true);
                lines++;
            }
        }
        due.answer("the lines of the example", lines, 12);
    }

    /** Each command of the page's table makes its call, in a contest that allows it. */
    private static void commands() throws IOException {
        Pattern row = Pattern.compile("\\| `([a-z]+(?: [a-z0-9]+)*)` \\| `(\\w+)`.*\\|");
        List<String> found = new ArrayList<>();
        for (String line : Files.readAllLines(Path.of("README.md"))) {
            Matcher matcher = row.matcher(line);
            if (matcher.matches()) {
                String command = matcher.group(1);
                String call = matcher.group(2);
                found.add(call);
                due.answer("run of " + command, effectOf(command, call), effectOfCall(call));
            }
        }
        due.answer("the commands of the page", found, List.of("addPoint", "addTaskPoint",
                "addThermal", "addArea", "addPilot", "launch", "fly", "climb", "endDay"));
    }

    private static void program() throws IOException {
        String program = "launch 0;fly 0 e10;end";
        due.answer("the page shows " + program,
                Files.readString(Path.of("README.md")).contains("`" + program + "`"), true);
        GlidingContest contest = new GlidingContest();
        Fixture.runText(contest, "point 1 1;point 11 1;task 0;task 1;pilot 40");
        due.answer(program, Fixture.runText(contest, program), 3);
        due.answer("the total", contest.total(0), 1500L);
        GlidingContest longer = Fixture.withTask(40);
        due.thrown(program + " before the finish", Fixture.UNSUPPORTED,
                () -> Fixture.runText(longer, program));
        due.answer("the failed command", longer.failedCommand(), 2);
    }

    /** A contest that allows the call; turn point 0 is not the last of its task. */
    private static GlidingContest readyFor(String call) {
        GlidingContest contest = Fixture.withTask(20);
        contest.addThermal(10, 10, 3);
        if (call.equals("fly") || call.equals("climb")) {
            contest.launch(0);
        }
        if (call.equals("endDay")) {
            contest.launch(0);
            Fixture.finish(contest, 0);
        }
        return contest;
    }

    private static String effectOf(String command, String call) {
        GlidingContest contest = readyFor(call);
        String before = View.of(contest);
        Fixture.runText(contest, command);
        String after = View.of(contest);
        due.answer("no difference after " + command, after.equals(before), false);
        return after;
    }

    /** The calls with the numbers that the page's commands have. */
    private static String effectOfCall(String call) {
        GlidingContest contest = readyFor(call);
        switch (call) {
            case "addPoint" -> contest.addPoint(10, 20);
            case "addTaskPoint" -> contest.addTaskPoint(0);
            case "addThermal" -> contest.addThermal(10, 10, 5);
            case "addArea" -> contest.addArea(5, 6, 7, 8);
            case "addPilot" -> contest.addPilot(40);
            case "launch" -> contest.launch(0);
            case "fly" -> contest.fly(0, Fixture.NORTH, 10);
            case "climb" -> contest.climb(0, 5);
            default -> contest.endDay();
        }
        return View.of(contest);
    }

    private static void callsAreNamed() throws IOException {
        TreeSet<String> named = new TreeSet<>();
        Matcher word = Pattern.compile("`(\\w+)`").matcher(Files.readString(Path.of("README.md")));
        while (word.find()) {
            named.add(word.group(1));
        }
        for (Method method : GlidingContest.class.getDeclaredMethods()) {
            if (Modifier.isPublic(method.getModifiers())) {
                due.answer("README.md names " + method.getName(),
                        named.contains(method.getName()), true);
            }
        }
    }
}
