/**
 * What a contest answers about itself, as a text: two of them are equal if nothing has changed.
 * It makes no call that changes anything, and few calls: an object stands 512 of them.
 */
final class View {
    private static final int[] ROWS = {0, 6, 10, 11, 31, 60};
    private static final int[][] POSITIONS = {{0, 0}, {10, 10}, {20, 18}, {60, 60}};

    private final GlidingContest contest;
    private final StringBuilder text = new StringBuilder();

    private View(GlidingContest contest) {
        this.contest = contest;
    }

    static String of(GlidingContest contest) {
        View view = new View(contest);
        view.addMap();
        view.addTask();
        for (int pilot = 0; pilot < contest.pilotCount(); pilot++) {
            view.addPilot(pilot);
        }
        view.add("days", contest.days());
        view.addStored();
        view.addLine();
        return view.text.toString();
    }

    private void add(String name, Object value) {
        text.append(' ').append(name).append('=').append(value);
    }

    private void addMap() {
        add("points", contest.pointCount());
        for (int point = 1; point < contest.pointCount(); point++) {
            add("to", contest.distance(point - 1, point));
        }
        add("base", contest.cloudBase());
        for (int y : ROWS) {
            add("row", contest.restrictedInRow(y));
        }
        for (int[] at : POSITIONS) {
            add("thermal", strengthAt(at[0], at[1]));
        }
    }

    private int strengthAt(int x, int y) {
        try {
            return contest.strongestThermal(x, y);
        } catch (java.util.NoSuchElementException e) {
            return 0;
        }
    }

    private void addTask() {
        add("planning", contest.isPlanning());
        add("length", contest.taskLength());
        for (int position = 0; position < contest.taskLength(); position++) {
            add("point", contest.taskPoint(position));
        }
        add("distance", contest.taskDistance());
    }

    private void addPilot(int pilot) {
        boolean flying = contest.isFlying(pilot);
        boolean landed = contest.isLanded(pilot);
        boolean finished = contest.isFinished(pilot);
        add("phase", (flying ? "f" : "") + (landed ? "l" : "") + (finished ? "!" : ""));
        add("sink", contest.sink(pilot));
        add("reached", contest.reached(pilot));
        add("score", contest.dayScore(pilot));
        add("total", contest.total(pilot));
        add("rank", contest.pilotAtRank(pilot));
        if (flying || landed || finished) {
            add("x", contest.x(pilot));
            add("y", contest.y(pilot));
            add("height", contest.height(pilot));
            add("minutes", contest.minutes(pilot));
            add("penalty", contest.penalty(pilot));
        }
    }

    private void addStored() {
        try {
            add("error", contest.errorPosition());
        } catch (java.util.NoSuchElementException e) {
            add("error", "none");
        }
        try {
            add("failed", contest.failedCommand());
        } catch (java.util.NoSuchElementException e) {
            add("failed", "none");
        }
    }

    private void addLine() {
        text.append(" line=");
        for (int index = 0; index < 40; index++) {
            try {
                text.append(contest.outputAt(index));
            } catch (IndexOutOfBoundsException e) {
                return;
            }
        }
    }
}
