/** The boundary cases of the promises 13 to 22: queries about the map and the task. */
public final class MapQueryBoundaryTest {
    private static final int LEAST = Integer.MIN_VALUE;
    private static final int GREATEST = Integer.MAX_VALUE;

    public static void main(String[] args) {
        Promises.check(MapQueryBoundaryTest.class);
    }

    /** The first ones lie in the corners of the map, one after the other farther along its edge. */
    private static GlidingContest withPoints(int count) {
        int[][] at = {{0, 0}, {60, 60}, {0, 60}, {60, 0}, {1, 0}, {2, 0}, {3, 0}, {3, 0}};
        GlidingContest c = new GlidingContest();
        for (int i = 0; i < count; i++) {
            c.addPoint(at[i][0], at[i][1]);
        }
        return c;
    }

    /** A task of some length, at most 6, to and fro between two corners of the map. */
    private static GlidingContest withStops(int count) {
        GlidingContest c = withPoints(2);
        for (int i = 0; i < count; i++) {
            c.addTaskPoint(i % 2);
        }
        return c;
    }

    // ---- promise 13

    static void promise13_pointCount_empty_none(Due due) {
        due.is(new GlidingContest().pointCount(), 0);
    }

    static void promise13_pointCount_full_eight(Due due) {
        for (int count = 1; count <= 8; count++) {
            due.is(withPoints(count).pointCount(), count);
        }
    }

    static void promise13_pointCount_kept_afterANinth(Due due) {
        GlidingContest c = withPoints(8);
        due.state(() -> c.addPoint(1, 1));
        due.is(c.pointCount(), 8);
    }

    // ---- promise 14

    static void promise14_distance_index_noTurnPoints(Due due) {
        GlidingContest c = new GlidingContest();
        due.index(() -> c.distance(0, 0));
    }

    static void promise14_distance_index_oneTooSmall(Due due) {
        GlidingContest c = withPoints(2);
        due.index(() -> c.distance(-1, 0));
        due.index(() -> c.distance(LEAST, 0));
    }

    static void promise14_distance_index_oneTooLarge(Due due) {
        GlidingContest c = withPoints(2);
        due.index(() -> c.distance(2, 0));
        due.index(() -> c.distance(GREATEST, 0));
    }

    static void promise14_distance_index_otherTooSmall(Due due) {
        GlidingContest c = withPoints(2);
        due.index(() -> c.distance(0, -1));
        due.index(() -> c.distance(0, LEAST));
    }

    static void promise14_distance_index_otherTooLarge(Due due) {
        GlidingContest c = withPoints(2);
        due.index(() -> c.distance(0, 2));
        due.index(() -> c.distance(0, GREATEST));
    }

    static void promise14_distance_index_bothBeyondTheEighth(Due due) {
        GlidingContest c = withPoints(8);
        due.index(() -> c.distance(8, 8));
        due.index(() -> c.distance(7, 8));
        due.index(() -> c.distance(8, 7));
    }

    static void promise14_distance_edge_sameTurnPoint(Due due) {
        GlidingContest c = withPoints(8);
        for (int point = 0; point < 8; point++) {
            due.is(c.distance(point, point), 0);
        }
    }

    static void promise14_distance_edge_samePosition(Due due) {
        due.is(withPoints(8).distance(6, 7), 0);
    }

    static void promise14_distance_edge_cornersOfTheMap(Due due) {
        GlidingContest c = withPoints(4);
        due.is(c.distance(0, 1), 120);
        due.is(c.distance(1, 0), 120);
        due.is(c.distance(2, 3), 120);
        due.is(c.distance(0, 2), 60);
        due.is(c.distance(3, 0), 60);
    }

    // ---- promise 15

    static void promise15_taskLength_empty_none(Due due) {
        due.is(new GlidingContest().taskLength(), 0);
        GlidingContest cleared = withStops(3);
        cleared.clearTask();
        due.is(cleared.taskLength(), 0);
    }

    static void promise15_taskLength_full_six(Due due) {
        for (int count = 1; count <= 6; count++) {
            due.is(withStops(count).taskLength(), count);
        }
    }

    static void promise15_taskLength_kept_afterASeventh(Due due) {
        GlidingContest c = withStops(6);
        due.state(() -> c.addTaskPoint(0));
        due.is(c.taskLength(), 6);
    }

    // ---- promise 16

    static void promise16_taskPoint_noElement_noTask(Due due) {
        GlidingContest c = withPoints(2);
        due.noElement(() -> c.taskPoint(0));
        GlidingContest cleared = withStops(3);
        cleared.clearTask();
        due.noElement(() -> cleared.taskPoint(0));
        due.noElement(() -> cleared.taskPoint(2));
    }

    static void promise16_taskPoint_noElement_tooSmall(Due due) {
        GlidingContest c = withStops(2);
        due.noElement(() -> c.taskPoint(-1));
        due.noElement(() -> c.taskPoint(LEAST));
    }

    static void promise16_taskPoint_noElement_tooLarge(Due due) {
        GlidingContest c = withStops(2);
        due.noElement(() -> c.taskPoint(2));
        due.noElement(() -> c.taskPoint(GREATEST));
        GlidingContest full = withStops(6);
        due.noElement(() -> full.taskPoint(6));
    }

    static void promise16_taskPoint_edge_firstAndLast(Due due) {
        GlidingContest c = withStops(6);
        due.is(c.taskPoint(0), 0);
        due.is(c.taskPoint(5), 1);
    }

    // ---- promise 17

    static void promise17_taskDistance_empty_noTurnPoint(Due due) {
        due.is(withStops(0).taskDistance(), 0);
    }

    static void promise17_taskDistance_edge_oneTurnPoint(Due due) {
        due.is(withStops(1).taskDistance(), 0);
    }

    static void promise17_taskDistance_edge_twoTurnPoints(Due due) {
        due.is(withStops(2).taskDistance(), 120);
    }

    static void promise17_taskDistance_edge_shortestLeg(Due due) {
        GlidingContest c = withPoints(5);
        c.addTaskPoint(0);
        c.addTaskPoint(4);
        due.is(c.taskDistance(), 1);
    }

    static void promise17_taskDistance_full_sixCorners(Due due) {
        due.is(withStops(6).taskDistance(), 600);
    }

    static void promise17_taskDistance_edge_afterClearing(Due due) {
        GlidingContest c = withStops(6);
        c.clearTask();
        due.is(c.taskDistance(), 0);
        c.addTaskPoint(1);
        due.is(c.taskDistance(), 0);
    }

    static void promise17_taskDistance_edge_shorterTaskAfterALongerOne(Due due) {
        GlidingContest c = withStops(6);
        c.clearTask();
        c.addTaskPoint(0);
        c.addTaskPoint(1);
        due.is(c.taskDistance(), 120);
        c.addTaskPoint(0);
        c.undo();
        due.is(c.taskDistance(), 120);
    }

    // ---- promise 18

    private static GlidingContest withThermal(int x, int y) {
        GlidingContest c = new GlidingContest();
        c.addThermal(x, y, 3);
        return c;
    }

    static void promise18_strongestThermal_argument_xTooSmall(Due due) {
        GlidingContest c = withThermal(0, 30);
        due.argument(() -> c.strongestThermal(-1, 30));
        due.argument(() -> c.strongestThermal(LEAST, 30));
    }

    static void promise18_strongestThermal_argument_xTooLarge(Due due) {
        GlidingContest c = withThermal(60, 30);
        due.argument(() -> c.strongestThermal(61, 30));
        due.argument(() -> c.strongestThermal(GREATEST, 30));
    }

    static void promise18_strongestThermal_argument_yTooSmall(Due due) {
        GlidingContest c = withThermal(30, 0);
        due.argument(() -> c.strongestThermal(30, -1));
        due.argument(() -> c.strongestThermal(30, LEAST));
    }

    static void promise18_strongestThermal_argument_yTooLarge(Due due) {
        GlidingContest c = withThermal(30, 60);
        due.argument(() -> c.strongestThermal(30, 61));
        due.argument(() -> c.strongestThermal(30, GREATEST));
    }

    static void promise18_strongestThermal_noElement_noThermals(Due due) {
        GlidingContest c = new GlidingContest();
        due.noElement(() -> c.strongestThermal(30, 30));
    }

    static void promise18_strongestThermal_noElement_threeKilometresOff(Due due) {
        GlidingContest c = withThermal(30, 30);
        int[][] off = {{33, 30}, {27, 30}, {30, 33}, {30, 27}, {32, 31}, {31, 32}, {28, 29},
            {29, 28}, {31, 28}, {28, 31}};
        for (int[] at : off) {
            due.noElement(() -> c.strongestThermal(at[0], at[1]));
        }
    }

    static void promise18_strongestThermal_edge_twoKilometresOff(Due due) {
        GlidingContest c = withThermal(30, 30);
        int[][] off = {{30, 30}, {32, 30}, {28, 30}, {30, 32}, {30, 28}, {31, 31}, {29, 29},
            {31, 29}, {29, 31}};
        for (int[] at : off) {
            due.is(c.strongestThermal(at[0], at[1]), 3);
        }
    }

    static void promise18_strongestThermal_edge_cornersOfTheMap(Due due) {
        for (int[] at : new int[][] {{0, 0}, {60, 0}, {0, 60}, {60, 60}}) {
            due.is(withThermal(at[0], at[1]).strongestThermal(at[0], at[1]), 3);
        }
    }

    static void promise18_strongestThermal_full_strongestOfSixInEachOrder(Due due) {
        for (int strongest = 0; strongest < 6; strongest++) {
            GlidingContest c = new GlidingContest();
            for (int i = 0; i < 6; i++) {
                c.addThermal(30, 30, i == strongest ? 5 : 1 + i % 4);
            }
            due.is(c.strongestThermal(30, 30), 5);
        }
    }

    static void promise18_strongestThermal_edge_strongerOneOutOfReach(Due due) {
        GlidingContest c = withThermal(30, 30);
        c.addThermal(33, 30, 5);
        due.is(c.strongestThermal(30, 30), 3);
        due.is(c.strongestThermal(31, 30), 5);
    }

    static void promise18_strongestThermal_first_outOfRangeBeforeNotCovered(Due due) {
        GlidingContest c = new GlidingContest();
        due.argument(() -> c.strongestThermal(-1, 0));
        due.argument(() -> c.strongestThermal(0, 61));
    }

    // ---- promise 19

    static void promise19_cloudBase_edge_initially1500(Due due) {
        due.is(new GlidingContest().cloudBase(), 1500);
    }

    static void promise19_cloudBase_edge_leastAndGreatest(Due due) {
        GlidingContest c = new GlidingContest();
        c.setCloudBase(500);
        due.is(c.cloudBase(), 500);
        c.setCloudBase(3000);
        due.is(c.cloudBase(), 3000);
    }

    static void promise19_cloudBase_kept_afterARefusedHeight(Due due) {
        GlidingContest c = new GlidingContest();
        due.argument(() -> c.setCloudBase(3001));
        due.is(c.cloudBase(), 1500);
    }

    // ---- promise 20

    private static GlidingContest allRestricted() {
        GlidingContest c = new GlidingContest();
        c.addArea(0, 0, 60, 60);
        return c;
    }

    static void promise20_isRestricted_argument_xTooSmall(Due due) {
        GlidingContest c = allRestricted();
        due.argument(() -> c.isRestricted(-1, 30));
        due.argument(() -> c.isRestricted(LEAST, 30));
    }

    static void promise20_isRestricted_argument_xTooLarge(Due due) {
        GlidingContest c = allRestricted();
        due.argument(() -> c.isRestricted(61, 30));
        due.argument(() -> c.isRestricted(GREATEST, 30));
    }

    static void promise20_isRestricted_argument_yTooSmall(Due due) {
        GlidingContest c = allRestricted();
        due.argument(() -> c.isRestricted(30, -1));
        due.argument(() -> c.isRestricted(30, LEAST));
    }

    static void promise20_isRestricted_argument_yTooLarge(Due due) {
        GlidingContest c = allRestricted();
        due.argument(() -> c.isRestricted(30, 61));
        due.argument(() -> c.isRestricted(30, GREATEST));
    }

    static void promise20_isRestricted_argument_withoutAreas(Due due) {
        GlidingContest c = new GlidingContest();
        due.argument(() -> c.isRestricted(-1, 0));
        due.argument(() -> c.isRestricted(0, 61));
    }

    static void promise20_isRestricted_empty_noAreas(Due due) {
        GlidingContest c = new GlidingContest();
        due.is(c.isRestricted(0, 0), false);
        due.is(c.isRestricted(60, 60), false);
    }

    static void promise20_isRestricted_edge_cornersOfTheMap(Due due) {
        GlidingContest c = allRestricted();
        for (int[] at : new int[][] {{0, 0}, {60, 0}, {0, 60}, {60, 60}}) {
            due.is(c.isRestricted(at[0], at[1]), true);
        }
    }

    static void promise20_isRestricted_edge_limitsOfAnArea(Due due) {
        GlidingContest c = new GlidingContest();
        c.addArea(10, 20, 30, 40);
        int[][] limits = {{10, 30}, {30, 30}, {20, 20}, {20, 40}};
        for (int[] at : limits) {
            due.is(c.isRestricted(at[0], at[1]), true);
        }
        int[][] beside = {{9, 30}, {31, 30}, {20, 19}, {20, 41}};
        for (int[] at : beside) {
            due.is(c.isRestricted(at[0], at[1]), false);
        }
    }

    static void promise20_isRestricted_full_inAnyOfThree(Due due) {
        GlidingContest c = new GlidingContest();
        c.addArea(0, 0, 4, 4);
        c.addArea(4, 4, 8, 8);
        c.addArea(20, 20, 20, 20);
        for (int at : new int[] {0, 4, 8, 20}) {
            due.is(c.isRestricted(at, at), true);
        }
        for (int at : new int[] {9, 19, 21}) {
            due.is(c.isRestricted(at, at), false);
        }
    }

    // ---- promise 21

    static void promise21_restrictedInRow_argument_tooSmall(Due due) {
        GlidingContest c = allRestricted();
        due.argument(() -> c.restrictedInRow(-1));
        due.argument(() -> c.restrictedInRow(LEAST));
    }

    static void promise21_restrictedInRow_argument_tooLarge(Due due) {
        GlidingContest c = allRestricted();
        due.argument(() -> c.restrictedInRow(61));
        due.argument(() -> c.restrictedInRow(256));
        due.argument(() -> c.restrictedInRow(GREATEST));
    }

    static void promise21_restrictedInRow_empty_noAreas(Due due) {
        GlidingContest c = new GlidingContest();
        due.is(c.restrictedInRow(0), 0);
        due.is(c.restrictedInRow(60), 0);
    }

    static void promise21_restrictedInRow_full_wholeRows(Due due) {
        GlidingContest c = allRestricted();
        due.is(c.restrictedInRow(0), 61);
        due.is(c.restrictedInRow(60), 61);
    }

    static void promise21_restrictedInRow_edge_limitsOfAnArea(Due due) {
        GlidingContest c = new GlidingContest();
        c.addArea(10, 20, 30, 40);
        due.is(c.restrictedInRow(19), 0);
        due.is(c.restrictedInRow(20), 21);
        due.is(c.restrictedInRow(40), 21);
        due.is(c.restrictedInRow(41), 0);
    }

    static void promise21_restrictedInRow_edge_overlapCountsOnce(Due due) {
        GlidingContest c = new GlidingContest();
        c.addArea(10, 5, 20, 5);
        c.addArea(15, 5, 25, 5);
        c.addArea(0, 5, 0, 5);
        due.is(c.restrictedInRow(5), 17);
    }

    // ---- promise 22

    static void promise22_restrictedInRowByRanges_argument_tooSmall(Due due) {
        GlidingContest c = allRestricted();
        due.argument(() -> c.restrictedInRowByRanges(-1));
        due.argument(() -> c.restrictedInRowByRanges(LEAST));
    }

    static void promise22_restrictedInRowByRanges_argument_tooLarge(Due due) {
        GlidingContest c = allRestricted();
        due.argument(() -> c.restrictedInRowByRanges(61));
        due.argument(() -> c.restrictedInRowByRanges(256));
        due.argument(() -> c.restrictedInRowByRanges(GREATEST));
    }

    static void promise22_restrictedInRowByRanges_empty_noAreas(Due due) {
        GlidingContest c = new GlidingContest();
        due.is(c.restrictedInRowByRanges(0), 0);
        due.is(c.restrictedInRowByRanges(60), 0);
    }

    static void promise22_restrictedInRowByRanges_full_wholeRows(Due due) {
        GlidingContest c = allRestricted();
        due.is(c.restrictedInRowByRanges(0), 61);
        due.is(c.restrictedInRowByRanges(60), 61);
    }

    static void promise22_restrictedInRowByRanges_edge_limitsOfAnArea(Due due) {
        GlidingContest c = new GlidingContest();
        c.addArea(10, 20, 30, 40);
        due.is(c.restrictedInRowByRanges(19), 0);
        due.is(c.restrictedInRowByRanges(20), 21);
        due.is(c.restrictedInRowByRanges(40), 21);
        due.is(c.restrictedInRowByRanges(41), 0);
    }

    /** Three ranges in each of their six orders. */
    private static void ranges(Due due, int want, int[]... ranges) {
        int[][] orders = {{0, 1, 2}, {0, 2, 1}, {1, 0, 2}, {1, 2, 0}, {2, 0, 1}, {2, 1, 0}};
        for (int[] order : orders) {
            GlidingContest c = new GlidingContest();
            for (int i : order) {
                c.addArea(ranges[i][0], 5, ranges[i][1], 5);
            }
            due.is(c.restrictedInRowByRanges(5), want);
            due.is(c.restrictedInRow(5), want);
        }
    }

    private static int[] range(int west, int east) {
        return new int[] {west, east};
    }

    static void promise22_restrictedInRowByRanges_edge_rangesApart(Due due) {
        ranges(due, 6, range(0, 1), range(3, 4), range(59, 60));
    }

    static void promise22_restrictedInRowByRanges_edge_rangesSideBySide(Due due) {
        ranges(due, 15, range(0, 4), range(5, 9), range(10, 14));
    }

    static void promise22_restrictedInRowByRanges_edge_rangesShareAPosition(Due due) {
        ranges(due, 13, range(0, 4), range(4, 8), range(8, 12));
    }

    static void promise22_restrictedInRowByRanges_edge_rangeWithinAnother(Due due) {
        ranges(due, 21, range(0, 20), range(5, 6), range(8, 20));
    }

    static void promise22_restrictedInRowByRanges_edge_equalRanges(Due due) {
        ranges(due, 5, range(2, 6), range(2, 6), range(2, 6));
    }

    static void promise22_restrictedInRowByRanges_edge_sameWestLimits(Due due) {
        ranges(due, 21, range(0, 4), range(0, 20), range(0, 10));
    }

    static void promise22_restrictedInRowByRanges_edge_shortRangeHidesNoLongOne(Due due) {
        ranges(due, 40, range(0, 30), range(1, 2), range(25, 39));
    }

    static void promise22_restrictedInRowByRanges_edge_onlyAreasThatMeetTheRow(Due due) {
        GlidingContest c = new GlidingContest();
        c.addArea(0, 6, 60, 60);
        c.addArea(3, 5, 4, 5);
        c.addArea(0, 0, 60, 4);
        due.is(c.restrictedInRowByRanges(5), 2);
        due.is(c.restrictedInRowByRanges(4), 61);
        due.is(c.restrictedInRowByRanges(6), 61);
    }
}
