/** Contests that several tests begin with, and short ways to use them. */
final class Fixture {
    static final Class<IllegalArgumentException> ARGUMENT = IllegalArgumentException.class;
    static final Class<IllegalStateException> STATE = IllegalStateException.class;
    static final Class<IndexOutOfBoundsException> INDEX = IndexOutOfBoundsException.class;
    static final Class<UnsupportedOperationException> UNSUPPORTED = UnsupportedOperationException.class;
    static final Class<java.util.NoSuchElementException> NO_ELEMENT =
            java.util.NoSuchElementException.class;

    static final int NORTH = 0;
    static final int EAST = 1;
    static final int SOUTH = 2;
    static final int WEST = 3;

    private Fixture() {
    }

    /** The task (10,10) - (20,10) - (20,18), 10 + 8 kilometres, and a pilot for each ratio. */
    static GlidingContest withTask(int... ratios) {
        GlidingContest contest = new GlidingContest();
        contest.addPoint(10, 10);
        contest.addPoint(20, 10);
        contest.addPoint(20, 18);
        contest.addTaskPoint(0);
        contest.addTaskPoint(1);
        contest.addTaskPoint(2);
        for (int ratio : ratios) {
            contest.addPilot(ratio);
        }
        return contest;
    }

    /** Flies the whole task of withTask from its start: 18 minutes. */
    static void finish(GlidingContest contest, int pilot) {
        contest.fly(pilot, EAST, 10);
        contest.fly(pilot, NORTH, 8);
    }

    /** Lets a pilot of ratio 20 at the start of withTask land 20 kilometres north of it. */
    static void land(GlidingContest contest, int pilot) {
        contest.fly(pilot, NORTH, 40);
    }

    static void type(GlidingContest contest, String text) {
        for (char character : text.toCharArray()) {
            contest.append(character);
        }
    }

    static int runText(GlidingContest contest, String text) {
        type(contest, text);
        return contest.run();
    }

    static String line(GlidingContest contest, int length) {
        StringBuilder line = new StringBuilder();
        for (int index = 0; index < length; index++) {
            line.append(contest.outputAt(index));
        }
        return line.toString();
    }

    static String pilotLine(GlidingContest contest, int pilot) {
        return line(contest, contest.writePilot(pilot));
    }

    static String taskLine(GlidingContest contest) {
        return line(contest, contest.writeTask());
    }

    /** Undoes as long as it can be done. */
    static int undoAll(GlidingContest contest) {
        int undone = 0;
        while (true) {
            try {
                contest.undo();
            } catch (IllegalStateException e) {
                return undone;
            }
            undone++;
        }
    }
}
