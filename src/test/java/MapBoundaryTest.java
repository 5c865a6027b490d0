/** The boundary cases of the promises 1 to 7: a new object, the map and the task. */
public final class MapBoundaryTest {
    private static final int LEAST = Integer.MIN_VALUE;
    private static final int GREATEST = Integer.MAX_VALUE;

    public static void main(String[] args) {
        Promises.check(MapBoundaryTest.class);
    }

    private static GlidingContest withPoints(int count) {
        GlidingContest c = new GlidingContest();
        for (int i = 0; i < count; i++) {
            c.addPoint(10 + i, 20);
        }
        return c;
    }

    /** A task of some length, at most 6, along two turn points. */
    private static GlidingContest withStops(int count) {
        GlidingContest c = withPoints(2);
        for (int i = 0; i < count; i++) {
            c.addTaskPoint(i % 2);
        }
        return c;
    }

    private static GlidingContest flying() {
        GlidingContest c = Fixture.withTask(20, 60);
        c.launch(0);
        return c;
    }

    private static GlidingContest landed() {
        GlidingContest c = flying();
        Fixture.land(c, 0);
        return c;
    }

    private static GlidingContest finished() {
        GlidingContest c = flying();
        Fixture.finish(c, 0);
        return c;
    }

    // ---- promise 1

    static void promise01_newObject_empty_noTurnPoints(Due due) {
        GlidingContest c = new GlidingContest();
        due.is(c.pointCount(), 0);
        due.index(() -> c.distance(0, 0));
        due.index(() -> c.addTaskPoint(0));
        due.is(c.addPoint(5, 5), 0);
    }

    static void promise01_newObject_empty_noTask(Due due) {
        GlidingContest c = new GlidingContest();
        due.is(c.taskLength(), 0);
        due.is(c.taskDistance(), 0);
        due.noElement(() -> c.taskPoint(0));
        due.is(c.writeTask(), 0);
    }

    static void promise01_newObject_empty_noThermals(Due due) {
        for (int x = 0; x <= 60; x++) {
            GlidingContest c = new GlidingContest();
            for (int y = 0; y <= 60; y++) {
                int atX = x;
                int atY = y;
                due.noElement(() -> c.strongestThermal(atX, atY));
            }
            due.is(c.addThermal(0, 0, 1), 1);
        }
    }

    static void promise01_newObject_empty_noAreas(Due due) {
        GlidingContest c = new GlidingContest();
        for (int y = 0; y <= 60; y++) {
            due.is(c.restrictedInRow(y), 0);
            due.is(c.restrictedInRowByRanges(y), 0);
        }
        due.is(c.addArea(0, 0, 0, 0), 1);
    }

    static void promise01_newObject_empty_noPilots(Due due) {
        GlidingContest c = new GlidingContest();
        due.is(c.pilotCount(), 0);
        due.index(() -> c.total(0));
        due.noElement(() -> c.pilotAtRank(0));
        due.arithmetic(c::meanScore);
        due.is(c.addPilot(20), 0);
    }

    static void promise01_newObject_edge_cloudBaseIs1500(Due due) {
        due.is(new GlidingContest().cloudBase(), 1500);
    }

    static void promise01_newObject_edge_planningOfDayNone(Due due) {
        GlidingContest c = new GlidingContest();
        due.is(c.isPlanning(), true);
        due.is(c.days(), 0);
        due.is(c.isConsistent(), true);
    }

    static void promise01_newObject_empty_buffer(Due due) {
        due.is(new GlidingContest().append('e'), 1);
    }

    static void promise01_newObject_empty_outputLine(Due due) {
        GlidingContest c = new GlidingContest();
        due.index(() -> c.outputAt(0));
    }

    static void promise01_newObject_empty_nothingStored(Due due) {
        GlidingContest c = new GlidingContest();
        due.noElement(c::errorPosition);
        due.noElement(c::failedCommand);
    }

    static void promise01_newObject_empty_nothingToUndoOrRestore(Due due) {
        GlidingContest c = new GlidingContest();
        due.state(c::undo);
        due.state(c::restore);
    }

    static void promise01_newObject_edge_twoObjectsAreApart(Due due) {
        GlidingContest one = new GlidingContest();
        GlidingContest other = new GlidingContest();
        String before = View.of(other);
        Fixture.runText(one, "point 1 1;task 0;area 0 0 9 9;pilot 20");
        one.save();
        due.is(View.of(other), before);
        due.state(other::restore);
        due.state(other::undo);
    }

    // ---- promise 2

    static void promise02_addPoint_argument_xTooSmall(Due due) {
        GlidingContest c = new GlidingContest();
        due.argument(() -> c.addPoint(-1, 30));
        due.argument(() -> c.addPoint(LEAST, 30));
    }

    static void promise02_addPoint_argument_xTooLarge(Due due) {
        GlidingContest c = new GlidingContest();
        due.argument(() -> c.addPoint(61, 30));
        due.argument(() -> c.addPoint(256, 30));
        due.argument(() -> c.addPoint(GREATEST, 30));
    }

    static void promise02_addPoint_argument_yTooSmall(Due due) {
        GlidingContest c = new GlidingContest();
        due.argument(() -> c.addPoint(30, -1));
        due.argument(() -> c.addPoint(30, LEAST));
    }

    static void promise02_addPoint_argument_yTooLarge(Due due) {
        GlidingContest c = new GlidingContest();
        due.argument(() -> c.addPoint(30, 61));
        due.argument(() -> c.addPoint(30, 256));
        due.argument(() -> c.addPoint(30, GREATEST));
    }

    static void promise02_addPoint_edge_leastAndGreatestCoordinates(Due due) {
        GlidingContest c = new GlidingContest();
        due.is(c.addPoint(0, 0), 0);
        due.is(c.addPoint(60, 0), 1);
        due.is(c.addPoint(0, 60), 2);
        due.is(c.addPoint(60, 60), 3);
        due.is(c.distance(0, 1), 60);
        due.is(c.distance(0, 2), 60);
        due.is(c.distance(0, 3), 120);
        due.is(c.distance(1, 2), 120);
    }

    static void promise02_addPoint_edge_samePositionTwice(Due due) {
        GlidingContest c = new GlidingContest();
        due.is(c.addPoint(7, 7), 0);
        due.is(c.addPoint(7, 7), 1);
    }

    static void promise02_addPoint_full_eightIndices(Due due) {
        GlidingContest c = new GlidingContest();
        for (int i = 0; i < 8; i++) {
            due.is(c.addPoint(i, i), i);
        }
    }

    static void promise02_addPoint_state_ninth(Due due) {
        GlidingContest c = withPoints(8);
        due.state(() -> c.addPoint(1, 1));
        due.state(() -> c.addPoint(0, 60));
    }

    static void promise02_addPoint_state_eighthAgainAfterUndo(Due due) {
        GlidingContest c = withPoints(8);
        c.undo();
        due.is(c.addPoint(3, 3), 7);
        due.state(() -> c.addPoint(3, 3));
    }

    static void promise02_addPoint_first_ninthOutOfRange(Due due) {
        GlidingContest c = withPoints(8);
        due.argument(() -> c.addPoint(-1, 0));
        due.argument(() -> c.addPoint(0, 61));
    }

    static void promise02_addPoint_kept_outOfRange(Due due) {
        GlidingContest c = withPoints(3);
        due.kept(c, () -> c.addPoint(30, 61));
        due.is(c.undo(), 2);
    }

    static void promise02_addPoint_kept_ninth(Due due) {
        GlidingContest c = withPoints(8);
        due.kept(c, () -> c.addPoint(1, 1));
        due.is(c.undo(), 7);
    }

    static void promise02_addPoint_late_atAnyTime(Due due) {
        due.is(flying().addPoint(1, 2), 3);
        due.is(landed().addPoint(1, 2), 3);
        due.is(finished().addPoint(1, 2), 3);
    }

    // ---- promise 3

    static void promise03_addTaskPoint_index_noTurnPoints(Due due) {
        GlidingContest c = new GlidingContest();
        due.index(() -> c.addTaskPoint(0));
    }

    static void promise03_addTaskPoint_index_tooSmall(Due due) {
        GlidingContest c = withPoints(2);
        due.index(() -> c.addTaskPoint(-1));
        due.index(() -> c.addTaskPoint(LEAST));
    }

    static void promise03_addTaskPoint_index_tooLarge(Due due) {
        GlidingContest c = withPoints(2);
        due.index(() -> c.addTaskPoint(2));
        due.index(() -> c.addTaskPoint(8));
        due.index(() -> c.addTaskPoint(256));
        due.index(() -> c.addTaskPoint(GREATEST));
        GlidingContest full = withPoints(8);
        due.index(() -> full.addTaskPoint(8));
    }

    static void promise03_addTaskPoint_edge_firstAndLastTurnPoint(Due due) {
        GlidingContest c = withPoints(8);
        due.is(c.addTaskPoint(7), 1);
        due.is(c.addTaskPoint(0), 2);
        due.is(c.taskPoint(0), 7);
        due.is(c.taskPoint(1), 0);
    }

    static void promise03_addTaskPoint_full_six(Due due) {
        GlidingContest c = withPoints(2);
        for (int i = 0; i < 6; i++) {
            due.is(c.addTaskPoint(i % 2), i + 1);
        }
    }

    static void promise03_addTaskPoint_state_seventh(Due due) {
        GlidingContest c = withStops(6);
        due.state(() -> c.addTaskPoint(0));
    }

    static void promise03_addTaskPoint_state_flying(Due due) {
        GlidingContest c = flying();
        due.state(() -> c.addTaskPoint(0));
    }

    static void promise03_addTaskPoint_state_landed(Due due) {
        GlidingContest c = landed();
        due.state(() -> c.addTaskPoint(0));
    }

    static void promise03_addTaskPoint_state_finished(Due due) {
        GlidingContest c = finished();
        due.state(() -> c.addTaskPoint(0));
    }

    static void promise03_addTaskPoint_edge_nextPlanningPhase(Due due) {
        GlidingContest c = landed();
        c.endDay();
        due.is(c.addTaskPoint(0), 4);
    }

    static void promise03_addTaskPoint_unsupported_sameTurnPoint(Due due) {
        GlidingContest c = withStops(1);
        due.unsupported(() -> c.addTaskPoint(0));
    }

    static void promise03_addTaskPoint_unsupported_otherTurnPointOfSamePosition(Due due) {
        GlidingContest c = withStops(2);
        c.addPoint(11, 20);
        due.unsupported(() -> c.addTaskPoint(2));
    }

    static void promise03_addTaskPoint_edge_oneCoordinateDiffers(Due due) {
        GlidingContest c = withStops(2);
        c.addPoint(11, 21);
        c.addPoint(12, 21);
        due.is(c.addTaskPoint(2), 3);
        due.is(c.addTaskPoint(3), 4);
    }

    static void promise03_addTaskPoint_edge_samePositionEarlierInTheTask(Due due) {
        GlidingContest c = withStops(2);
        due.is(c.addTaskPoint(0), 3);
        due.is(c.addTaskPoint(1), 4);
    }

    static void promise03_addTaskPoint_edge_sameTurnPointAfterClearing(Due due) {
        GlidingContest c = withStops(1);
        c.clearTask();
        due.is(c.addTaskPoint(0), 1);
    }

    static void promise03_addTaskPoint_first_indexBeforeFullTask(Due due) {
        GlidingContest c = withStops(6);
        due.index(() -> c.addTaskPoint(2));
        due.index(() -> c.addTaskPoint(-1));
    }

    static void promise03_addTaskPoint_first_indexBeforeFlying(Due due) {
        GlidingContest c = flying();
        due.index(() -> c.addTaskPoint(3));
    }

    static void promise03_addTaskPoint_first_fullTaskBeforeSamePosition(Due due) {
        GlidingContest c = withStops(6);
        due.state(() -> c.addTaskPoint(1));
    }

    static void promise03_addTaskPoint_first_flyingBeforeSamePosition(Due due) {
        GlidingContest c = flying();
        due.state(() -> c.addTaskPoint(2));
    }

    static void promise03_addTaskPoint_kept_eachRefusal(Due due) {
        GlidingContest two = withStops(2);
        due.kept(two, () -> two.addTaskPoint(2));
        due.kept(two, () -> two.addTaskPoint(1));
        due.is(two.undo(), 3);
        GlidingContest six = withStops(6);
        due.kept(six, () -> six.addTaskPoint(0));
        due.is(six.undo(), 7);
        GlidingContest late = flying();
        due.kept(late, () -> late.addTaskPoint(0));
    }

    // ---- promise 4

    static void promise04_clearTask_empty_noTask(Due due) {
        due.is(new GlidingContest().clearTask(), 0);
        GlidingContest c = withStops(1);
        due.is(c.clearTask(), 1);
        due.is(c.clearTask(), 0);
    }

    static void promise04_clearTask_full_six(Due due) {
        GlidingContest c = withStops(6);
        due.is(c.clearTask(), 6);
        due.is(c.taskLength(), 0);
        due.is(c.taskDistance(), 0);
        due.noElement(() -> c.taskPoint(0));
        due.is(c.addTaskPoint(1), 1);
    }

    static void promise04_clearTask_edge_turnPointsStay(Due due) {
        GlidingContest c = withStops(2);
        c.clearTask();
        due.is(c.pointCount(), 2);
        due.is(c.distance(0, 1), 1);
    }

    static void promise04_clearTask_state_flying(Due due) {
        due.state(flying()::clearTask);
    }

    static void promise04_clearTask_state_landed(Due due) {
        due.state(landed()::clearTask);
    }

    static void promise04_clearTask_state_finished(Due due) {
        due.state(finished()::clearTask);
    }

    static void promise04_clearTask_kept_flying(Due due) {
        GlidingContest c = flying();
        due.kept(c, c::clearTask);
        due.is(c.undo(), 7);
        due.is(c.isPlanning(), true);
    }

    static void promise04_clearTask_edge_nextPlanningPhase(Due due) {
        GlidingContest c = finished();
        c.endDay();
        due.is(c.clearTask(), 3);
    }

    // ---- promise 5

    static void promise05_addThermal_argument_xTooSmall(Due due) {
        GlidingContest c = new GlidingContest();
        due.argument(() -> c.addThermal(-1, 30, 3));
        due.argument(() -> c.addThermal(LEAST, 30, 3));
    }

    static void promise05_addThermal_argument_xTooLarge(Due due) {
        GlidingContest c = new GlidingContest();
        due.argument(() -> c.addThermal(61, 30, 3));
        due.argument(() -> c.addThermal(GREATEST, 30, 3));
    }

    static void promise05_addThermal_argument_yTooSmall(Due due) {
        GlidingContest c = new GlidingContest();
        due.argument(() -> c.addThermal(30, -1, 3));
        due.argument(() -> c.addThermal(30, LEAST, 3));
    }

    static void promise05_addThermal_argument_yTooLarge(Due due) {
        GlidingContest c = new GlidingContest();
        due.argument(() -> c.addThermal(30, 61, 3));
        due.argument(() -> c.addThermal(30, GREATEST, 3));
    }

    static void promise05_addThermal_argument_strengthTooSmall(Due due) {
        GlidingContest c = new GlidingContest();
        due.argument(() -> c.addThermal(30, 30, 0));
        due.argument(() -> c.addThermal(30, 30, -1));
        due.argument(() -> c.addThermal(30, 30, LEAST));
    }

    static void promise05_addThermal_argument_strengthTooLarge(Due due) {
        GlidingContest c = new GlidingContest();
        due.argument(() -> c.addThermal(30, 30, 6));
        due.argument(() -> c.addThermal(30, 30, 257));
        due.argument(() -> c.addThermal(30, 30, GREATEST));
    }

    static void promise05_addThermal_edge_corners(Due due) {
        GlidingContest c = new GlidingContest();
        due.is(c.addThermal(0, 0, 1), 1);
        due.is(c.addThermal(60, 0, 2), 2);
        due.is(c.addThermal(0, 60, 3), 3);
        due.is(c.addThermal(60, 60, 4), 4);
        due.is(c.strongestThermal(0, 0), 1);
        due.is(c.strongestThermal(60, 0), 2);
        due.is(c.strongestThermal(0, 60), 3);
        due.is(c.strongestThermal(60, 60), 4);
    }

    static void promise05_addThermal_edge_leastAndGreatestStrength(Due due) {
        GlidingContest c = new GlidingContest();
        c.addThermal(10, 10, 1);
        c.addThermal(20, 20, 5);
        due.is(c.strongestThermal(10, 10), 1);
        due.is(c.strongestThermal(20, 20), 5);
    }

    static void promise05_addThermal_full_six(Due due) {
        GlidingContest c = new GlidingContest();
        for (int count = 1; count <= 6; count++) {
            due.is(c.addThermal(10 * count, 10, 5), count);
        }
        due.is(c.strongestThermal(60, 10), 5);
    }

    private static GlidingContest withSixThermals() {
        GlidingContest c = new GlidingContest();
        for (int i = 0; i < 6; i++) {
            c.addThermal(10, 10, 2);
        }
        return c;
    }

    static void promise05_addThermal_state_seventh(Due due) {
        GlidingContest c = withSixThermals();
        due.state(() -> c.addThermal(10, 10, 2));
        due.state(() -> c.addThermal(60, 60, 5));
    }

    static void promise05_addThermal_first_seventhOutOfRange(Due due) {
        GlidingContest c = withSixThermals();
        due.argument(() -> c.addThermal(61, 10, 2));
        due.argument(() -> c.addThermal(10, -1, 2));
        due.argument(() -> c.addThermal(10, 10, 0));
    }

    static void promise05_addThermal_kept_eachRefusal(Due due) {
        GlidingContest one = new GlidingContest();
        one.addThermal(10, 10, 2);
        due.kept(one, () -> one.addThermal(10, 10, 6));
        due.is(one.undo(), 0);
        due.is(one.addThermal(10, 10, 2), 1);
        GlidingContest six = withSixThermals();
        due.kept(six, () -> six.addThermal(10, 10, 5));
        due.is(six.undo(), 5);
    }

    static void promise05_addThermal_late_atAnyTime(Due due) {
        due.is(flying().addThermal(1, 1, 1), 1);
        due.is(landed().addThermal(1, 1, 1), 1);
        due.is(finished().addThermal(1, 1, 1), 1);
    }

    // ---- promise 6

    static void promise06_setCloudBase_argument_tooSmall(Due due) {
        GlidingContest c = new GlidingContest();
        due.argument(() -> c.setCloudBase(499));
        due.argument(() -> c.setCloudBase(0));
        due.argument(() -> c.setCloudBase(-1500));
        due.argument(() -> c.setCloudBase(LEAST));
    }

    static void promise06_setCloudBase_argument_tooLarge(Due due) {
        GlidingContest c = new GlidingContest();
        due.argument(() -> c.setCloudBase(3001));
        due.argument(() -> c.setCloudBase(65536 + 1500));
        due.argument(() -> c.setCloudBase(GREATEST));
    }

    static void promise06_setCloudBase_edge_leastHeight(Due due) {
        GlidingContest c = new GlidingContest();
        due.is(c.setCloudBase(500), 1500);
        due.is(c.cloudBase(), 500);
    }

    static void promise06_setCloudBase_edge_greatestHeight(Due due) {
        GlidingContest c = new GlidingContest();
        due.is(c.setCloudBase(3000), 1500);
        due.is(c.cloudBase(), 3000);
    }

    static void promise06_setCloudBase_edge_previousOfSame(Due due) {
        GlidingContest c = new GlidingContest();
        due.is(c.setCloudBase(1500), 1500);
        due.is(c.setCloudBase(700), 1500);
        due.is(c.setCloudBase(700), 700);
    }

    static void promise06_setCloudBase_kept_outOfRange(Due due) {
        GlidingContest c = new GlidingContest();
        c.setCloudBase(700);
        due.kept(c, () -> c.setCloudBase(499));
        due.kept(c, () -> c.setCloudBase(3001));
        due.is(c.undo(), 0);
    }

    static void promise06_setCloudBase_late_atAnyTime(Due due) {
        GlidingContest c = flying();
        due.is(c.setCloudBase(500), 1500);
        due.is(c.height(0), 1000);
        due.is(landed().setCloudBase(500), 1500);
        due.is(finished().setCloudBase(500), 1500);
    }

    // ---- promise 7

    static void promise07_addArea_argument_westTooSmall(Due due) {
        GlidingContest c = new GlidingContest();
        due.argument(() -> c.addArea(-1, 10, 20, 20));
        due.argument(() -> c.addArea(LEAST, 10, 20, 20));
    }

    static void promise07_addArea_argument_westTooLarge(Due due) {
        GlidingContest c = new GlidingContest();
        due.argument(() -> c.addArea(61, 10, 61, 20));
        due.argument(() -> c.addArea(61, 10, 60, 20));
        due.argument(() -> c.addArea(GREATEST, 10, GREATEST, 20));
    }

    static void promise07_addArea_argument_southTooSmall(Due due) {
        GlidingContest c = new GlidingContest();
        due.argument(() -> c.addArea(10, -1, 20, 20));
        due.argument(() -> c.addArea(10, LEAST, 20, 20));
    }

    static void promise07_addArea_argument_southTooLarge(Due due) {
        GlidingContest c = new GlidingContest();
        due.argument(() -> c.addArea(10, 61, 20, 61));
        due.argument(() -> c.addArea(10, 61, 20, 60));
        due.argument(() -> c.addArea(10, GREATEST, 20, GREATEST));
    }

    static void promise07_addArea_argument_eastBelowWest(Due due) {
        GlidingContest c = new GlidingContest();
        due.argument(() -> c.addArea(10, 10, 9, 20));
        due.argument(() -> c.addArea(1, 10, 0, 20));
        due.argument(() -> c.addArea(0, 10, -1, 20));
        due.argument(() -> c.addArea(0, 10, LEAST, 20));
    }

    static void promise07_addArea_argument_eastTooLarge(Due due) {
        GlidingContest c = new GlidingContest();
        due.argument(() -> c.addArea(10, 10, 61, 20));
        due.argument(() -> c.addArea(60, 10, 61, 20));
        due.argument(() -> c.addArea(10, 10, GREATEST, 20));
    }

    static void promise07_addArea_argument_northBelowSouth(Due due) {
        GlidingContest c = new GlidingContest();
        due.argument(() -> c.addArea(10, 10, 20, 9));
        due.argument(() -> c.addArea(10, 1, 20, 0));
        due.argument(() -> c.addArea(10, 0, 20, -1));
        due.argument(() -> c.addArea(10, 0, 20, LEAST));
    }

    static void promise07_addArea_argument_northTooLarge(Due due) {
        GlidingContest c = new GlidingContest();
        due.argument(() -> c.addArea(10, 10, 20, 61));
        due.argument(() -> c.addArea(10, 60, 20, 61));
        due.argument(() -> c.addArea(10, 10, 20, GREATEST));
    }

    static void promise07_addArea_edge_onePosition(Due due) {
        GlidingContest c = new GlidingContest();
        due.is(c.addArea(0, 0, 0, 0), 1);
        due.is(c.addArea(60, 60, 60, 60), 2);
        due.is(c.isRestricted(0, 0), true);
        due.is(c.isRestricted(60, 60), true);
        due.is(c.restrictedInRow(0), 1);
        due.is(c.restrictedInRow(60), 1);
        due.is(c.restrictedInRow(30), 0);
    }

    static void promise07_addArea_edge_wholeMap(Due due) {
        GlidingContest c = new GlidingContest();
        due.is(c.addArea(0, 0, 60, 60), 1);
        for (int y = 0; y <= 60; y++) {
            due.is(c.restrictedInRow(y), 61);
        }
    }

    static void promise07_addArea_edge_limitsBelong(Due due) {
        GlidingContest c = new GlidingContest();
        c.addArea(10, 20, 30, 40);
        int[][] corners = {{10, 20}, {30, 20}, {10, 40}, {30, 40}};
        for (int[] at : corners) {
            due.is(c.isRestricted(at[0], at[1]), true);
        }
        int[][] beside = {{9, 20}, {31, 20}, {10, 19}, {10, 41}, {9, 40}, {31, 40}, {30, 19},
            {30, 41}};
        for (int[] at : beside) {
            due.is(c.isRestricted(at[0], at[1]), false);
        }
    }

    static void promise07_addArea_full_threeThatOverlap(Due due) {
        GlidingContest c = new GlidingContest();
        due.is(c.addArea(0, 0, 10, 10), 1);
        due.is(c.addArea(0, 0, 10, 10), 2);
        due.is(c.addArea(10, 10, 20, 20), 3);
        due.is(c.isRestricted(20, 20), true);
    }

    private static GlidingContest withThreeAreas() {
        GlidingContest c = new GlidingContest();
        for (int i = 0; i < 3; i++) {
            c.addArea(10, 10, 12, 12);
        }
        return c;
    }

    static void promise07_addArea_state_fourth(Due due) {
        GlidingContest c = withThreeAreas();
        due.state(() -> c.addArea(10, 10, 12, 12));
        due.state(() -> c.addArea(0, 0, 60, 60));
    }

    static void promise07_addArea_first_fourthOutOfRange(Due due) {
        GlidingContest c = withThreeAreas();
        due.argument(() -> c.addArea(-1, 10, 12, 12));
        due.argument(() -> c.addArea(10, 61, 12, 61));
        due.argument(() -> c.addArea(10, 10, 9, 12));
        due.argument(() -> c.addArea(10, 10, 12, 9));
    }

    static void promise07_addArea_kept_eachRefusal(Due due) {
        GlidingContest one = new GlidingContest();
        one.addArea(10, 10, 12, 12);
        due.kept(one, () -> one.addArea(0, 0, 61, 60));
        due.is(one.addArea(10, 10, 12, 12), 2);
        due.is(one.undo(), 1);
        GlidingContest three = withThreeAreas();
        due.kept(three, () -> three.addArea(0, 0, 60, 60));
        due.is(three.undo(), 2);
    }

    static void promise07_addArea_late_atAnyTime(Due due) {
        due.is(flying().addArea(1, 1, 2, 2), 1);
        due.is(landed().addArea(1, 1, 2, 2), 1);
        due.is(finished().addArea(1, 1, 2, 2), 1);
    }
}
