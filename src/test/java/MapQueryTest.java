/** Promises 13 to 22: queries about the map and the task. */
public final class MapQueryTest {
    private static final Due due = new Due("MapQueryTest");

    public static void main(String[] args) {
        pointCountAndDistance();
        taskLengthAndPoint();
        taskDistance();
        strongestThermal();
        cloudBase();
        isRestricted();
        restrictedInRow();
        rowsOfManyAreas();
        due.finish();
    }

    private static void pointCountAndDistance() {
        GlidingContest c = new GlidingContest();
        due.answer("pointCount", c.pointCount(), 0);
        due.thrown("distance without points", Fixture.INDEX, () -> c.distance(0, 0));
        c.addPoint(3, 40);
        c.addPoint(10, 4);
        c.addPoint(10, 4);
        due.answer("pointCount", c.pointCount(), 3);
        due.answer("distance", c.distance(0, 1), 43);
        due.answer("the way back", c.distance(1, 0), 43);
        due.answer("distance to itself", c.distance(1, 1), 0);
        due.answer("distance of the same position", c.distance(1, 2), 0);
        int[][] wrong = {{-1, 0}, {0, -1}, {3, 0}, {0, 3}, {8, 8}};
        for (int[] pair : wrong) {
            due.thrown("distance " + pair[0] + " " + pair[1], Fixture.INDEX,
                    () -> c.distance(pair[0], pair[1]));
        }
    }

    private static void taskLengthAndPoint() {
        GlidingContest c = new GlidingContest();
        due.answer("taskLength", c.taskLength(), 0);
        due.thrown("taskPoint of no task", Fixture.NO_ELEMENT, () -> c.taskPoint(0));
        c.addPoint(1, 1);
        c.addPoint(2, 2);
        c.addTaskPoint(1);
        c.addTaskPoint(0);
        c.addTaskPoint(1);
        due.answer("taskLength", c.taskLength(), 3);
        due.answer("taskPoint 0", c.taskPoint(0), 1);
        due.answer("taskPoint 1", c.taskPoint(1), 0);
        due.answer("taskPoint 2", c.taskPoint(2), 1);
        due.thrown("taskPoint 3", Fixture.NO_ELEMENT, () -> c.taskPoint(3));
        due.thrown("taskPoint -1", Fixture.NO_ELEMENT, () -> c.taskPoint(-1));
        c.clearTask();
        due.thrown("taskPoint of a cleared task", Fixture.NO_ELEMENT, () -> c.taskPoint(0));
    }

    private static void taskDistance() {
        GlidingContest c = new GlidingContest();
        due.answer("no task", c.taskDistance(), 0);
        c.addPoint(0, 0);
        c.addPoint(60, 60);
        c.addPoint(59, 60);
        c.addTaskPoint(0);
        due.answer("one turn point", c.taskDistance(), 0);
        c.addTaskPoint(1);
        due.answer("one leg", c.taskDistance(), 120);
        c.addTaskPoint(2);
        due.answer("two legs", c.taskDistance(), 121);
        c.addTaskPoint(0);
        c.addTaskPoint(1);
        c.addTaskPoint(0);
        due.answer("five legs", c.taskDistance(), 121 + 119 + 240);
    }

    private static void strongestThermal() {
        GlidingContest c = new GlidingContest();
        c.addThermal(20, 20, 2);
        int[][] covered = {{20, 20}, {22, 20}, {18, 20}, {20, 22}, {20, 18}, {21, 21}, {19, 21}};
        for (int[] at : covered) {
            due.answer("covered " + at[0] + " " + at[1], c.strongestThermal(at[0], at[1]), 2);
        }
        int[][] free = {{23, 20}, {17, 20}, {20, 23}, {20, 17}, {22, 21}, {18, 19}, {19, 22}};
        for (int[] at : free) {
            due.thrown("not covered " + at[0] + " " + at[1], Fixture.NO_ELEMENT,
                    () -> c.strongestThermal(at[0], at[1]));
        }
        c.addThermal(21, 20, 4);
        c.addThermal(20, 21, 3);
        due.answer("the strongest of three", c.strongestThermal(20, 20), 4);
        due.answer("only the first", c.strongestThermal(18, 20), 2);
        due.answer("the edge of the second", c.strongestThermal(23, 20), 4);
        int[][] wrong = {{-1, 20}, {61, 20}, {20, -1}, {20, 61}};
        for (int[] at : wrong) {
            due.thrown("strongestThermal " + at[0] + " " + at[1], Fixture.ARGUMENT,
                    () -> c.strongestThermal(at[0], at[1]));
        }
        c.addThermal(60, 60, 1);
        due.answer("at the corner", c.strongestThermal(60, 60), 1);
    }

    private static void cloudBase() {
        GlidingContest c = new GlidingContest();
        due.answer("cloudBase", c.cloudBase(), 1500);
        c.setCloudBase(2345);
        due.answer("cloudBase", c.cloudBase(), 2345);
    }

    private static void isRestricted() {
        GlidingContest c = new GlidingContest();
        c.addArea(10, 20, 12, 25);
        int[][] inside = {{10, 20}, {12, 20}, {10, 25}, {12, 25}, {11, 22}};
        for (int[] at : inside) {
            due.answer("inside " + at[0] + " " + at[1], c.isRestricted(at[0], at[1]), true);
        }
        int[][] outside = {{9, 20}, {13, 20}, {10, 19}, {10, 26}, {20, 10}};
        for (int[] at : outside) {
            due.answer("outside " + at[0] + " " + at[1], c.isRestricted(at[0], at[1]), false);
        }
        c.addArea(0, 0, 0, 0);
        due.answer("in the second area", c.isRestricted(0, 0), true);
        int[][] wrong = {{-1, 0}, {61, 0}, {0, -1}, {0, 61}};
        for (int[] at : wrong) {
            due.thrown("isRestricted " + at[0] + " " + at[1], Fixture.ARGUMENT,
                    () -> c.isRestricted(at[0], at[1]));
        }
        due.answer("the far corner", c.isRestricted(60, 60), false);
    }

    private static void bothWays(GlidingContest c, int y, int want) {
        due.answer("restrictedInRow " + y, c.restrictedInRow(y), want);
        due.answer("restrictedInRowByRanges " + y, c.restrictedInRowByRanges(y), want);
    }

    private static void restrictedInRow() {
        GlidingContest c = new GlidingContest();
        bothWays(c, 0, 0);
        c.addArea(5, 10, 9, 20);
        bothWays(c, 9, 0);
        bothWays(c, 10, 5);
        bothWays(c, 20, 5);
        bothWays(c, 21, 0);
        c.addArea(0, 20, 60, 60);
        bothWays(c, 19, 5);
        bothWays(c, 20, 61);
        bothWays(c, 60, 61);
        for (int wrong : new int[] {-1, 61, Integer.MIN_VALUE, Integer.MAX_VALUE}) {
            due.thrown("restrictedInRow " + wrong, Fixture.ARGUMENT,
                    () -> c.restrictedInRow(wrong));
            due.thrown("restrictedInRowByRanges " + wrong, Fixture.ARGUMENT,
                    () -> c.restrictedInRowByRanges(wrong));
        }
    }

    /** All orders of three x ranges that are apart, touch, overlap, contain one another. */
    private static void rowsOfManyAreas() {
        int[][] ranges = {{0, 4}, {5, 9}, {3, 7}, {4, 4}, {0, 60}, {50, 60}, {8, 30}};
        for (int[] first : ranges) {
            for (int[] second : ranges) {
                for (int[] third : ranges) {
                    GlidingContest c = new GlidingContest();
                    boolean[] restricted = new boolean[61];
                    int want = 0;
                    for (int[] range : new int[][] {first, second, third}) {
                        c.addArea(range[0], 7, range[1], 7);
                        for (int x = range[0]; x <= range[1]; x++) {
                            want += restricted[x] ? 0 : 1;
                            restricted[x] = true;
                        }
                    }
                    bothWays(c, 7, want);
                    bothWays(c, 8, 0);
                }
            }
        }
    }
}
