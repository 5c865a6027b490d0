import java.util.NoSuchElementException;

/**
 * A scoring model for a gliding competition: tasks along turn points, thermals in which gliders
 * climb, glides that cost height, restricted areas, daily scores and a total ranking.
 */
public final class GlidingContest {
    private static final int EDGE = 60;
    private static final int MAX_POINTS = 8;
    private static final int MAX_STOPS = 6;
    private static final int LEAST_STOPS = 2;
    private static final int MAX_THERMALS = 6;
    private static final int MAX_AREAS = 3;
    private static final int MAX_PILOTS = 6;
    private static final int MAX_UNDO = 8;
    private static final int MAX_TEXT = 60;
    /** The shortest command is "end", so that 60 characters hold 15 commands with their ";". */
    private static final int MAX_COMMANDS = 15;
    private static final int MAX_NUMBERS = 4;

    private static final int MAX_STRENGTH = 5;
    private static final int THERMAL_REACH = 2;
    private static final int CLIMB_PER_STRENGTH = 60;
    private static final int LEAST_BASE = 500;
    private static final int GREATEST_BASE = 3000;
    private static final int FIRST_BASE = 1500;
    private static final int LEAST_RATIO = 20;
    private static final int GREATEST_RATIO = 60;
    private static final int METRES_PER_KILOMETRE = 1000;
    private static final int LAUNCH_HEIGHT = 1000;
    private static final int MAX_CLIMB_MINUTES = 30;
    private static final int AREA_PENALTY = 10;
    private static final int DISTANCE_SCORE = 1000;
    private static final int TIME_SCORE = 500;
    /** Far above the 600 kilometres that the longest task has. */
    private static final int MAX_SIMULATED_KILOMETRES = 10000;

    private static final int NORTH = 0;
    private static final int EAST = 1;
    private static final int SOUTH = 2;
    private static final int WEST = 3;
    /** The ways of a program, in the order of the directions. */
    private static final String WAYS = "nesw";

    private static final int NOTHING = -1;

    private static final int POINT = 0;
    private static final int TASK = 1;
    private static final int THERMAL = 2;
    private static final int AREA = 3;
    private static final int PILOT = 4;
    private static final int LAUNCH = 5;
    private static final int FLY = 6;
    private static final int CLIMB = 7;
    private static final int END = 8;
    private static final int KINDS = 9;

    private final State now = new State();
    private final State saved = new State();
    private final State beforeRun = new State();
    private final History history = new History();
    private final Script script = new Script();
    private final StringBuilder line = new StringBuilder();
    private boolean hasSaved = false;
    private int storedError = NOTHING;
    private int storedFailure = NOTHING;

    public GlidingContest() {
    }

    // ---- map and task

    public int addPoint(int x, int y) throws IllegalArgumentException, IllegalStateException {
        refuse(now.refusalOfPoint(x, y));
        history.keep(now);
        return now.course.putPoint(x, y);
    }

    public int addTaskPoint(int point)
            throws IndexOutOfBoundsException, IllegalStateException, UnsupportedOperationException {
        refuse(now.refusalOfStop(point));
        history.keep(now);
        return now.course.putStop(point);
    }

    public int clearTask() throws IllegalStateException {
        if (!now.allWaiting()) {
            throw new IllegalStateException("the day is not in its planning phase");
        }
        history.keep(now);
        return now.course.dropStops();
    }

    public int addThermal(int x, int y, int strength)
            throws IllegalArgumentException, IllegalStateException {
        refuse(now.refusalOfThermal(x, y, strength));
        history.keep(now);
        return now.air.putThermal(x, y, strength);
    }

    public int setCloudBase(int metres) throws IllegalArgumentException {
        if (metres < LEAST_BASE || metres > GREATEST_BASE) {
            throw new IllegalArgumentException("the cloud base is out of range");
        }
        history.keep(now);
        int previous = now.air.base;
        now.air.base = metres;
        return previous;
    }

    public int addArea(int west, int south, int east, int north)
            throws IllegalArgumentException, IllegalStateException {
        refuse(now.refusalOfArea(west, south, east, north));
        history.keep(now);
        return now.areas.putArea(west, south, east, north);
    }

    // ---- pilots and flights

    public int addPilot(int ratio) throws IllegalArgumentException, IllegalStateException {
        refuse(now.refusalOfPilot(ratio));
        history.keep(now);
        return now.putPilot(ratio);
    }

    public int launch(int pilot)
            throws IndexOutOfBoundsException, IllegalStateException, UnsupportedOperationException {
        refuse(now.refusalOfLaunch(pilot));
        history.keep(now);
        return now.start(pilot);
    }

    public int fly(int pilot, int direction, int kilometres)
            throws IndexOutOfBoundsException, IllegalArgumentException, IllegalStateException,
            UnsupportedOperationException {
        refuse(now.refusalOfFlight(pilot, direction, kilometres));
        history.keep(now);
        return now.glide(pilot, direction, kilometres);
    }

    public int climb(int pilot, int minutes)
            throws IndexOutOfBoundsException, IllegalArgumentException, IllegalStateException,
            UnsupportedOperationException {
        refuse(now.refusalOfClimb(pilot, minutes));
        history.keep(now);
        return now.soar(pilot, minutes);
    }

    public int endDay() throws IllegalStateException {
        refuse(now.refusalOfEnd());
        history.keep(now);
        return now.closeDay();
    }

    // ---- queries about the map and the task

    public int pointCount() {
        return now.course.points;
    }

    public int distance(int one, int other) throws IndexOutOfBoundsException {
        if (!now.course.hasPoint(one) || !now.course.hasPoint(other)) {
            throw new IndexOutOfBoundsException("there is no such turn point");
        }
        return now.course.span(one, other);
    }

    public int taskLength() {
        return now.course.length;
    }

    public int taskPoint(int position) throws NoSuchElementException {
        if (!now.course.hasStop(position)) {
            throw new NoSuchElementException("the task has no such position");
        }
        return now.course.stops[position];
    }

    public int taskDistance() {
        return now.course.wholeDistance();
    }

    public int strongestThermal(int x, int y)
            throws IllegalArgumentException, NoSuchElementException {
        requirePosition(x, y);
        int strength = now.air.strongestAt(x, y);
        if (strength == 0) {
            throw new NoSuchElementException("no thermal covers the position");
        }
        return strength;
    }

    public int cloudBase() {
        return now.air.base;
    }

    public boolean isRestricted(int x, int y) throws IllegalArgumentException {
        requirePosition(x, y);
        return now.areas.covers(x, y);
    }

    public int restrictedInRow(int y) throws IllegalArgumentException {
        requirePosition(0, y);
        return now.areas.countByPositions(y);
    }

    public int restrictedInRowByRanges(int y) throws IllegalArgumentException {
        requirePosition(0, y);
        return now.areas.countByRanges(y);
    }

    // ---- queries about pilots

    public int pilotCount() {
        return now.pilots;
    }

    public boolean isPlanning() {
        return now.allWaiting();
    }

    public boolean isFlying(int pilot) throws IndexOutOfBoundsException {
        return knownPilot(pilot).phase == Phase.FLYING;
    }

    public boolean isLanded(int pilot) throws IndexOutOfBoundsException {
        return knownPilot(pilot).phase == Phase.LANDED;
    }

    public boolean isFinished(int pilot) throws IndexOutOfBoundsException {
        return knownPilot(pilot).phase == Phase.FINISHED;
    }

    public int sink(int pilot) throws IndexOutOfBoundsException {
        return knownPilot(pilot).sinkRate();
    }

    public int x(int pilot) throws IndexOutOfBoundsException, IllegalStateException {
        return launchedPilot(pilot).x;
    }

    public int y(int pilot) throws IndexOutOfBoundsException, IllegalStateException {
        return launchedPilot(pilot).y;
    }

    public int height(int pilot) throws IndexOutOfBoundsException, IllegalStateException {
        return launchedPilot(pilot).height;
    }

    public int minutes(int pilot) throws IndexOutOfBoundsException, IllegalStateException {
        return launchedPilot(pilot).minutes;
    }

    public int penalty(int pilot) throws IndexOutOfBoundsException, IllegalStateException {
        return launchedPilot(pilot).penalty;
    }

    public int reached(int pilot) throws IndexOutOfBoundsException {
        return knownPilot(pilot).reached;
    }

    public int remainingDistance(int pilot)
            throws IndexOutOfBoundsException, IllegalStateException {
        return now.distanceLeft(pilotInPhase(pilot, Phase.FLYING));
    }

    public boolean canFinish(int pilot) throws IndexOutOfBoundsException, IllegalStateException {
        return now.finishesByHeight(pilotInPhase(pilot, Phase.FLYING));
    }

    public boolean canFinishBySimulation(int pilot)
            throws IndexOutOfBoundsException, IllegalStateException {
        return now.finishesInFlight(pilotInPhase(pilot, Phase.FLYING));
    }

    // ---- queries about scores

    public int achievedDistance(int pilot) throws IndexOutOfBoundsException {
        return now.distanceDone(knownPilot(pilot));
    }

    public int dayScore(int pilot) throws IndexOutOfBoundsException {
        return now.scoreOf(knownPilot(pilot));
    }

    public long total(int pilot) throws IndexOutOfBoundsException {
        return knownPilot(pilot).total;
    }

    public int pilotAtRank(int rank) throws NoSuchElementException {
        if (!now.hasPilot(rank)) {
            throw new NoSuchElementException("there is no such rank");
        }
        return now.rankedAt(rank);
    }

    public int days() {
        return now.endedDays;
    }

    public float speed(int pilot) throws IndexOutOfBoundsException, IllegalStateException {
        Glider glider = pilotInPhase(pilot, Phase.FINISHED);
        if (glider.minutes <= 0) {
            return 0f;
        }
        return (float) now.course.wholeDistance() / (float) glider.minutes;
    }

    public double meanScore() throws ArithmeticException {
        if (now.pilots <= 0) {
            throw new ArithmeticException("there are no pilots");
        }
        return (double) now.scoreOfAll() / (double) now.pilots;
    }

    public boolean isConsistent() {
        return now.rowCountsAgree() && now.finishForecastsAgree() && now.distancesAreBounded();
    }

    // ---- programs

    public int append(char character) throws IllegalStateException {
        if (!script.hasRoom()) {
            throw new IllegalStateException("the text buffer is full");
        }
        return script.add(character);
    }

    public int run() throws IllegalArgumentException, UnsupportedOperationException {
        int error = script.findError();
        script.length = 0;
        if (error != NOTHING) {
            storedError = error;
            throw new IllegalArgumentException("the text is not a program");
        }
        beforeRun.copyFrom(now);
        for (int command = 0; command < script.commands; command++) {
            if (refusalOf(command) != Refusal.NONE) {
                now.copyFrom(beforeRun);
                storedFailure = command;
                throw new UnsupportedOperationException("a command fails");
            }
            carryOut(command);
        }
        history.keep(beforeRun);
        return script.commands;
    }

    public int errorPosition() throws NoSuchElementException {
        if (storedError == NOTHING) {
            throw new NoSuchElementException("no error position was stored");
        }
        return storedError;
    }

    public int failedCommand() throws NoSuchElementException {
        if (storedFailure == NOTHING) {
            throw new NoSuchElementException("no failed command was stored");
        }
        return storedFailure;
    }

    // ---- output

    public int writePilot(int pilot) throws IndexOutOfBoundsException {
        Glider glider = knownPilot(pilot);
        line.setLength(0);
        line.append(pilot);
        if (glider.phase == Phase.WAITING) {
            line.append('-');
        } else {
            writeFlight(glider);
        }
        return line.length();
    }

    public int writeTask() {
        line.setLength(0);
        for (int position = 0; position < now.course.length; position++) {
            if (position > 0) {
                line.append('-').append(now.course.legs[position - 1]).append('>');
            }
            line.append(now.course.stops[position]);
        }
        return line.length();
    }

    public char outputAt(int index) throws IndexOutOfBoundsException {
        if (index < 0 || index >= line.length()) {
            throw new IndexOutOfBoundsException("the line has no such index");
        }
        return line.charAt(index);
    }

    // ---- undo and snapshot

    public int undo() throws IllegalStateException {
        if (history.count <= 0) {
            throw new IllegalStateException("no call can be undone");
        }
        history.takeBack(now);
        return history.count;
    }

    public void save() {
        saved.copyFrom(now);
        hasSaved = true;
    }

    public void restore() throws IllegalStateException {
        if (!hasSaved) {
            throw new IllegalStateException("no state was saved");
        }
        now.copyFrom(saved);
        history.count = 0;
    }

    // ---- helpers of the face

    private static void refuse(Refusal refusal) {
        if (refusal == Refusal.INDEX) {
            throw new IndexOutOfBoundsException("there is no such index");
        }
        if (refusal == Refusal.ARGUMENT) {
            throw new IllegalArgumentException("an argument is out of range");
        }
        if (refusal == Refusal.STATE) {
            throw new IllegalStateException("the present state does not allow the call");
        }
        if (refusal == Refusal.UNSUPPORTED) {
            throw new UnsupportedOperationException("the call is not possible here");
        }
    }

    private static boolean isCoordinate(int value) {
        return value >= 0 && value <= EDGE;
    }

    private static void requirePosition(int x, int y) {
        if (!isCoordinate(x) || !isCoordinate(y)) {
            throw new IllegalArgumentException("a coordinate is out of range");
        }
    }

    private Glider knownPilot(int pilot) {
        if (!now.hasPilot(pilot)) {
            throw new IndexOutOfBoundsException("there is no such pilot");
        }
        return now.gliders[pilot];
    }

    private Glider launchedPilot(int pilot) {
        Glider glider = knownPilot(pilot);
        if (glider.phase == Phase.WAITING) {
            throw new IllegalStateException("the pilot is waiting");
        }
        return glider;
    }

    private Glider pilotInPhase(int pilot, Phase phase) {
        Glider glider = knownPilot(pilot);
        if (glider.phase != phase) {
            throw new IllegalStateException("the pilot is in another phase");
        }
        return glider;
    }

    private void writeFlight(Glider glider) {
        line.append(glider.phaseSign()).append(glider.x).append(',').append(glider.y);
        line.append(' ').append(glider.height).append("m ");
        line.append(glider.reached).append('/').append(now.course.length);
        if (glider.penalty != 0) {
            line.append(" -").append(glider.penalty);
        }
    }

    private Refusal refusalOf(int command) {
        int[] numbers = script.numbers[command];
        switch (script.kinds[command]) {
            case POINT:
                return now.refusalOfPoint(numbers[0], numbers[1]);
            case TASK:
                return now.refusalOfStop(numbers[0]);
            case THERMAL:
                return now.refusalOfThermal(numbers[0], numbers[1], numbers[2]);
            case AREA:
                return now.refusalOfArea(numbers[0], numbers[1], numbers[2], numbers[3]);
            case PILOT:
                return now.refusalOfPilot(numbers[0]);
            case LAUNCH:
                return now.refusalOfLaunch(numbers[0]);
            case FLY:
                return now.refusalOfFlight(numbers[0], numbers[1], numbers[2]);
            case CLIMB:
                return now.refusalOfClimb(numbers[0], numbers[1]);
            default:
                return now.refusalOfEnd();
        }
    }

    private void carryOut(int command) {
        int[] numbers = script.numbers[command];
        switch (script.kinds[command]) {
            case POINT:
                now.course.putPoint(numbers[0], numbers[1]);
                break;
            case TASK:
                now.course.putStop(numbers[0]);
                break;
            case THERMAL:
                now.air.putThermal(numbers[0], numbers[1], numbers[2]);
                break;
            case AREA:
                now.areas.putArea(numbers[0], numbers[1], numbers[2], numbers[3]);
                break;
            case PILOT:
                now.putPilot(numbers[0]);
                break;
            case LAUNCH:
                now.start(numbers[0]);
                break;
            case FLY:
                now.glide(numbers[0], numbers[1], numbers[2]);
                break;
            case CLIMB:
                now.soar(numbers[0], numbers[1]);
                break;
            default:
                now.closeDay();
                break;
        }
    }

    /** The exception that a changing call has to throw, as a value: a program asks for it too. */
    private enum Refusal { NONE, INDEX, ARGUMENT, STATE, UNSUPPORTED }

    private enum Phase { WAITING, FLYING, LANDED, FINISHED }

    /** The turn points, and the task along them. */
    private static final class Course {
        final int[] pointX = new int[MAX_POINTS];
        final int[] pointY = new int[MAX_POINTS];
        int points = 0;
        final int[] stops = new int[MAX_STOPS];
        final int[] legs = new int[MAX_STOPS];
        int length = 0;

        void copyFrom(Course other) {
            System.arraycopy(other.pointX, 0, pointX, 0, MAX_POINTS);
            System.arraycopy(other.pointY, 0, pointY, 0, MAX_POINTS);
            points = other.points;
            System.arraycopy(other.stops, 0, stops, 0, MAX_STOPS);
            System.arraycopy(other.legs, 0, legs, 0, MAX_STOPS);
            length = other.length;
        }

        boolean hasPoint(int point) {
            return point >= 0 && point < points;
        }

        boolean hasStop(int position) {
            return position >= 0 && position < length;
        }

        int putPoint(int x, int y) {
            if (points >= MAX_POINTS) {
                return NOTHING;
            }
            pointX[points] = x;
            pointY[points] = y;
            points++;
            return points - 1;
        }

        int putStop(int point) {
            if (length >= MAX_STOPS) {
                return length;
            }
            if (length > 0) {
                legs[length - 1] = span(stops[length - 1], point);
            }
            stops[length] = point;
            length++;
            return length;
        }

        int dropStops() {
            int dropped = length;
            length = 0;
            return dropped;
        }

        int span(int one, int other) {
            if (!hasPoint(other)) {
                return 0;
            }
            return spanTo(one, pointX[other], pointY[other]);
        }

        int spanTo(int point, int x, int y) {
            if (point < 0 || point >= points) {
                return 0;
            }
            return Math.abs(pointX[point] - x) + Math.abs(pointY[point] - y);
        }

        int spanToStop(int position, int x, int y) {
            if (!hasStop(position)) {
                return 0;
            }
            return spanTo(stops[position], x, y);
        }

        boolean endsAtPositionOf(int point) {
            return length > 0 && span(stops[length - 1], point) == 0;
        }

        boolean isStopAt(int position, int x, int y) {
            return hasStop(position) && spanTo(stops[position], x, y) == 0;
        }

        /** The distance along the task from one of its positions to a later one. */
        int sumOfLegs(int from, int to) {
            if (from < 0 || to > MAX_STOPS) {
                return 0;
            }
            int sum = 0;
            for (int leg = from; leg < to; leg++) {
                sum += legs[leg];
            }
            return sum;
        }

        int wholeDistance() {
            return sumOfLegs(0, length - 1);
        }

        int directionTo(int position, int x, int y) {
            if (!hasStop(position) || !hasPoint(stops[position])) {
                return NORTH;
            }
            int point = stops[position];
            if (pointX[point] != x) {
                return pointX[point] > x ? EAST : WEST;
            }
            return pointY[point] > y ? NORTH : SOUTH;
        }
    }

    /** The thermals and the cloud base. */
    private static final class Air {
        final int[] thermalX = new int[MAX_THERMALS];
        final int[] thermalY = new int[MAX_THERMALS];
        final int[] strengths = new int[MAX_THERMALS];
        int thermals = 0;
        int base = FIRST_BASE;

        void copyFrom(Air other) {
            System.arraycopy(other.thermalX, 0, thermalX, 0, MAX_THERMALS);
            System.arraycopy(other.thermalY, 0, thermalY, 0, MAX_THERMALS);
            System.arraycopy(other.strengths, 0, strengths, 0, MAX_THERMALS);
            thermals = other.thermals;
            base = other.base;
        }

        int putThermal(int x, int y, int strength) {
            if (thermals >= MAX_THERMALS) {
                return thermals;
            }
            thermalX[thermals] = x;
            thermalY[thermals] = y;
            strengths[thermals] = strength;
            thermals++;
            return thermals;
        }

        /** 0 stands for a position that no thermal covers: every strength is greater. */
        int strongestAt(int x, int y) {
            int strongest = 0;
            for (int i = 0; i < thermals; i++) {
                int span = Math.abs(thermalX[i] - x) + Math.abs(thermalY[i] - y);
                if (span <= THERMAL_REACH && strengths[i] > strongest) {
                    strongest = strengths[i];
                }
            }
            return strongest;
        }
    }

    /** The restricted areas. */
    private static final class Areas {
        final int[] west = new int[MAX_AREAS];
        final int[] south = new int[MAX_AREAS];
        final int[] east = new int[MAX_AREAS];
        final int[] north = new int[MAX_AREAS];
        int count = 0;
        /** Rows for sorting, used anew by each call of countByRanges. */
        final int[] rangeWest = new int[MAX_AREAS];
        final int[] rangeEast = new int[MAX_AREAS];

        void copyFrom(Areas other) {
            System.arraycopy(other.west, 0, west, 0, MAX_AREAS);
            System.arraycopy(other.south, 0, south, 0, MAX_AREAS);
            System.arraycopy(other.east, 0, east, 0, MAX_AREAS);
            System.arraycopy(other.north, 0, north, 0, MAX_AREAS);
            count = other.count;
        }

        int putArea(int westLimit, int southLimit, int eastLimit, int northLimit) {
            if (count >= MAX_AREAS) {
                return count;
            }
            west[count] = westLimit;
            south[count] = southLimit;
            east[count] = eastLimit;
            north[count] = northLimit;
            count++;
            return count;
        }

        boolean covers(int x, int y) {
            for (int i = 0; i < count; i++) {
                if (west[i] <= x && x <= east[i] && south[i] <= y && y <= north[i]) {
                    return true;
                }
            }
            return false;
        }

        int countByPositions(int y) {
            int positions = 0;
            for (int x = 0; x <= EDGE; x++) {
                if (covers(x, y)) {
                    positions++;
                }
            }
            return positions;
        }

        int countByRanges(int y) {
            int ranges = sortRanges(y);
            int positions = 0;
            int coveredTo = -1;
            for (int i = 0; i < ranges; i++) {
                int from = Math.max(rangeWest[i], coveredTo + 1);
                if (from <= rangeEast[i]) {
                    positions += rangeEast[i] - from + 1;
                    coveredTo = rangeEast[i];
                }
            }
            return positions;
        }

        private int sortRanges(int y) {
            int ranges = 0;
            for (int i = 0; i < count; i++) {
                if (south[i] <= y && y <= north[i]) {
                    insertRange(ranges, west[i], east[i]);
                    ranges++;
                }
            }
            return ranges;
        }

        private void insertRange(int ranges, int from, int to) {
            if (ranges < 0 || ranges >= MAX_AREAS) {
                return;
            }
            int place = ranges;
            while (place > 0 && rangeWest[place - 1] > from) {
                rangeWest[place] = rangeWest[place - 1];
                rangeEast[place] = rangeEast[place - 1];
                place--;
            }
            rangeWest[place] = from;
            rangeEast[place] = to;
        }
    }

    /** A pilot with the flight of the present day. */
    private static final class Glider {
        int ratio = 0;
        Phase phase = Phase.WAITING;
        int x = 0;
        int y = 0;
        int height = 0;
        int minutes = 0;
        int penalty = 0;
        int reached = 0;
        long total = 0;

        void copyFrom(Glider other) {
            ratio = other.ratio;
            phase = other.phase;
            x = other.x;
            y = other.y;
            height = other.height;
            minutes = other.minutes;
            penalty = other.penalty;
            reached = other.reached;
            total = other.total;
        }

        void enter(int glideRatio) {
            ratio = glideRatio;
            total = 0;
            rest();
        }

        void rest() {
            phase = Phase.WAITING;
            x = 0;
            y = 0;
            height = 0;
            minutes = 0;
            penalty = 0;
            reached = 0;
        }

        void takeOff(int startX, int startY) {
            phase = Phase.FLYING;
            x = startX;
            y = startY;
            height = LAUNCH_HEIGHT;
            minutes = 0;
            penalty = 0;
            reached = 1;
        }

        int sinkRate() {
            return quotient(METRES_PER_KILOMETRE, ratio);
        }

        void move(int direction) {
            x += eastward(direction);
            y += northward(direction);
            minutes++;
            height = Math.max(0, height - sinkRate());
        }

        void rise(int strength, int climbMinutes, int base) {
            if (height < base) {
                height = Math.min(base, height + CLIMB_PER_STRENGTH * strength * climbMinutes);
            }
            minutes += climbMinutes;
        }

        char phaseSign() {
            if (phase == Phase.FLYING) {
                return 'f';
            }
            return phase == Phase.LANDED ? 'l' : '!';
        }
    }

    private static int quotient(int dividend, int divisor) {
        return divisor > 0 ? dividend / divisor : 0;
    }

    private static int eastward(int direction) {
        if (direction == EAST) {
            return 1;
        }
        return direction == WEST ? -1 : 0;
    }

    private static int northward(int direction) {
        if (direction == NORTH) {
            return 1;
        }
        return direction == SOUTH ? -1 : 0;
    }

    /** All that undo, save and restore concern. */
    private static final class State {
        final Course course = new Course();
        final Air air = new Air();
        final Areas areas = new Areas();
        final Glider[] gliders = new Glider[MAX_PILOTS];
        int pilots = 0;
        int endedDays = 0;
        /** Rows used anew by each ranking and by each simulated flight. */
        final long[] standings = new long[MAX_PILOTS];
        final Glider scout = new Glider();

        State() {
            for (int pilot = 0; pilot < MAX_PILOTS; pilot++) {
                gliders[pilot] = new Glider();
            }
        }

        void copyFrom(State other) {
            course.copyFrom(other.course);
            air.copyFrom(other.air);
            areas.copyFrom(other.areas);
            for (int pilot = 0; pilot < MAX_PILOTS; pilot++) {
                gliders[pilot].copyFrom(other.gliders[pilot]);
            }
            pilots = other.pilots;
            endedDays = other.endedDays;
        }

        boolean hasPilot(int pilot) {
            return pilot >= 0 && pilot < pilots;
        }

        int countInPhase(Phase phase) {
            int count = 0;
            for (int pilot = 0; pilot < pilots; pilot++) {
                if (gliders[pilot].phase == phase) {
                    count++;
                }
            }
            return count;
        }

        boolean allWaiting() {
            return countInPhase(Phase.WAITING) == pilots;
        }

        Refusal refusalOfPoint(int x, int y) {
            if (!isCoordinate(x) || !isCoordinate(y)) {
                return Refusal.ARGUMENT;
            }
            return course.points >= MAX_POINTS ? Refusal.STATE : Refusal.NONE;
        }

        Refusal refusalOfStop(int point) {
            if (!course.hasPoint(point)) {
                return Refusal.INDEX;
            }
            if (!allWaiting() || course.length >= MAX_STOPS) {
                return Refusal.STATE;
            }
            return course.endsAtPositionOf(point) ? Refusal.UNSUPPORTED : Refusal.NONE;
        }

        Refusal refusalOfThermal(int x, int y, int strength) {
            if (!isCoordinate(x) || !isCoordinate(y) || strength < 1 || strength > MAX_STRENGTH) {
                return Refusal.ARGUMENT;
            }
            return air.thermals >= MAX_THERMALS ? Refusal.STATE : Refusal.NONE;
        }

        Refusal refusalOfArea(int west, int south, int east, int north) {
            if (!isCoordinate(west) || !isCoordinate(south)) {
                return Refusal.ARGUMENT;
            }
            if (east < west || east > EDGE || north < south || north > EDGE) {
                return Refusal.ARGUMENT;
            }
            return areas.count >= MAX_AREAS ? Refusal.STATE : Refusal.NONE;
        }

        Refusal refusalOfPilot(int ratio) {
            if (ratio < LEAST_RATIO || ratio > GREATEST_RATIO) {
                return Refusal.ARGUMENT;
            }
            return pilots >= MAX_PILOTS ? Refusal.STATE : Refusal.NONE;
        }

        Refusal refusalOfLaunch(int pilot) {
            if (!hasPilot(pilot)) {
                return Refusal.INDEX;
            }
            if (gliders[pilot].phase != Phase.WAITING) {
                return Refusal.STATE;
            }
            return course.length < LEAST_STOPS ? Refusal.UNSUPPORTED : Refusal.NONE;
        }

        Refusal refusalOfFlight(int pilot, int direction, int kilometres) {
            if (!hasPilot(pilot)) {
                return Refusal.INDEX;
            }
            if (direction < NORTH || direction > WEST || kilometres < 1 || kilometres > EDGE) {
                return Refusal.ARGUMENT;
            }
            Glider glider = gliders[pilot];
            if (glider.phase != Phase.FLYING) {
                return Refusal.STATE;
            }
            int endX = glider.x + eastward(direction) * kilometres;
            int endY = glider.y + northward(direction) * kilometres;
            return isCoordinate(endX) && isCoordinate(endY) ? Refusal.NONE : Refusal.UNSUPPORTED;
        }

        Refusal refusalOfClimb(int pilot, int minutes) {
            if (!hasPilot(pilot)) {
                return Refusal.INDEX;
            }
            if (minutes < 1 || minutes > MAX_CLIMB_MINUTES) {
                return Refusal.ARGUMENT;
            }
            Glider glider = gliders[pilot];
            if (glider.phase != Phase.FLYING) {
                return Refusal.STATE;
            }
            boolean lifted = air.strongestAt(glider.x, glider.y) > 0;
            return lifted ? Refusal.NONE : Refusal.UNSUPPORTED;
        }

        Refusal refusalOfEnd() {
            boolean ongoing = allWaiting() || countInPhase(Phase.FLYING) > 0;
            return ongoing ? Refusal.STATE : Refusal.NONE;
        }

        int putPilot(int ratio) {
            if (pilots >= MAX_PILOTS) {
                return NOTHING;
            }
            gliders[pilots].enter(ratio);
            pilots++;
            return pilots - 1;
        }

        int start(int pilot) {
            if (hasPilot(pilot) && course.hasStop(0) && course.hasPoint(course.stops[0])) {
                int point = course.stops[0];
                gliders[pilot].takeOff(course.pointX[point], course.pointY[point]);
            }
            return countInPhase(Phase.FLYING);
        }

        int glide(int pilot, int direction, int kilometres) {
            if (!hasPilot(pilot)) {
                return 0;
            }
            Glider glider = gliders[pilot];
            int flown = 0;
            while (flown < kilometres && glider.phase == Phase.FLYING) {
                glideKilometre(glider, direction);
                flown++;
            }
            return flown;
        }

        private void glideKilometre(Glider glider, int direction) {
            glider.move(direction);
            if (areas.covers(glider.x, glider.y)) {
                glider.penalty += AREA_PENALTY;
            }
            if (course.isStopAt(glider.reached, glider.x, glider.y)) {
                glider.reached++;
                if (glider.reached == course.length) {
                    glider.phase = Phase.FINISHED;
                }
            }
            if (glider.phase == Phase.FLYING && glider.height == 0) {
                glider.phase = Phase.LANDED;
            }
        }

        int soar(int pilot, int minutes) {
            if (!hasPilot(pilot)) {
                return 0;
            }
            Glider glider = gliders[pilot];
            glider.rise(air.strongestAt(glider.x, glider.y), minutes, air.base);
            return glider.height;
        }

        int closeDay() {
            int finished = countInPhase(Phase.FINISHED);
            // The score of a pilot depends on the minutes of the others: all are added before any rests.
            for (int pilot = 0; pilot < pilots; pilot++) {
                gliders[pilot].total += scoreOf(gliders[pilot]);
            }
            for (int pilot = 0; pilot < pilots; pilot++) {
                gliders[pilot].rest();
            }
            endedDays++;
            return finished;
        }

        int distanceLeft(Glider glider) {
            int toNext = course.spanToStop(glider.reached, glider.x, glider.y);
            return toNext + course.sumOfLegs(glider.reached, course.length - 1);
        }

        /** The finish may be reached at height 0, all positions before it only above. */
        boolean finishesByHeight(Glider glider) {
            return glider.height > (distanceLeft(glider) - 1) * glider.sinkRate();
        }

        boolean finishesInFlight(Glider glider) {
            scout.copyFrom(glider);
            for (int flown = 0; flown < MAX_SIMULATED_KILOMETRES; flown++) {
                if (scout.phase != Phase.FLYING) {
                    break;
                }
                glideKilometre(scout, course.directionTo(scout.reached, scout.x, scout.y));
            }
            return scout.phase == Phase.FINISHED;
        }

        int distanceDone(Glider glider) {
            if (glider.phase == Phase.WAITING) {
                return 0;
            }
            int done = course.sumOfLegs(0, glider.reached - 1);
            if (glider.phase == Phase.FINISHED) {
                return done;
            }
            int leg = course.sumOfLegs(glider.reached - 1, glider.reached);
            int gain = leg - course.spanToStop(glider.reached, glider.x, glider.y);
            return done + Math.max(0, gain);
        }

        int scoreOf(Glider glider) {
            if (glider.phase == Phase.WAITING) {
                return 0;
            }
            int score = quotient(DISTANCE_SCORE * distanceDone(glider), course.wholeDistance());
            if (glider.phase == Phase.FINISHED) {
                score += quotient(TIME_SCORE * leastMinutes(glider.minutes), glider.minutes);
            }
            return Math.max(0, score - glider.penalty);
        }

        private int leastMinutes(int first) {
            int least = first;
            for (int pilot = 0; pilot < pilots; pilot++) {
                if (gliders[pilot].phase == Phase.FINISHED) {
                    least = Math.min(least, gliders[pilot].minutes);
                }
            }
            return least;
        }

        int scoreOfAll() {
            int sum = 0;
            for (int pilot = 0; pilot < pilots; pilot++) {
                sum += scoreOf(gliders[pilot]);
            }
            return sum;
        }

        int rankedAt(int rank) {
            for (int pilot = 0; pilot < pilots; pilot++) {
                standings[pilot] = gliders[pilot].total + scoreOf(gliders[pilot]);
            }
            for (int pilot = 0; pilot < pilots; pilot++) {
                if (countAhead(pilot) == rank) {
                    return pilot;
                }
            }
            return NOTHING;
        }

        private int countAhead(int pilot) {
            int ahead = 0;
            for (int other = 0; other < pilots; other++) {
                if (other != pilot && isAhead(other, pilot)) {
                    ahead++;
                }
            }
            return ahead;
        }

        private boolean isAhead(int one, int other) {
            if (!hasPilot(one) || !hasPilot(other)) {
                return false;
            }
            if (standings[one] != standings[other]) {
                return standings[one] > standings[other];
            }
            if (gliders[one].penalty != gliders[other].penalty) {
                return gliders[one].penalty < gliders[other].penalty;
            }
            return one < other;
        }

        boolean rowCountsAgree() {
            for (int y = 0; y <= EDGE; y++) {
                if (areas.countByPositions(y) != areas.countByRanges(y)) {
                    return false;
                }
            }
            return true;
        }

        boolean finishForecastsAgree() {
            for (int pilot = 0; pilot < pilots; pilot++) {
                Glider glider = gliders[pilot];
                if (glider.phase == Phase.FLYING
                        && finishesByHeight(glider) != finishesInFlight(glider)) {
                    return false;
                }
            }
            return true;
        }

        boolean distancesAreBounded() {
            for (int pilot = 0; pilot < pilots; pilot++) {
                if (distanceDone(gliders[pilot]) > course.wholeDistance()) {
                    return false;
                }
            }
            return true;
        }
    }

    /** The states before the most recent changing calls, the oldest first. */
    private static final class History {
        final State[] rows = new State[MAX_UNDO];
        int count = 0;

        History() {
            for (int row = 0; row < MAX_UNDO; row++) {
                rows[row] = new State();
            }
        }

        void keep(State state) {
            if (count >= MAX_UNDO) {
                dropOldest();
            }
            rows[count].copyFrom(state);
            count++;
        }

        private void dropOldest() {
            State oldest = rows[0];
            for (int row = 1; row < MAX_UNDO; row++) {
                rows[row - 1] = rows[row];
            }
            rows[MAX_UNDO - 1] = oldest;
            count = MAX_UNDO - 1;
        }

        void takeBack(State state) {
            if (count > 0) {
                count--;
                state.copyFrom(rows[count]);
            }
        }
    }

    /** The text buffer, and the commands that are read from it. */
    private static final class Script {
        final char[] text = new char[MAX_TEXT];
        int length = 0;
        final int[] kinds = new int[MAX_COMMANDS];
        final int[][] numbers = new int[MAX_COMMANDS][MAX_NUMBERS];
        int commands = 0;
        /** Where the reading of a command came to its end, or to its first wrong character. */
        private int stop = 0;

        boolean hasRoom() {
            return length < MAX_TEXT;
        }

        int add(char character) {
            if (hasRoom()) {
                text[length] = character;
                length++;
            }
            return length;
        }

        int findError() {
            commands = 0;
            int from = 0;
            while (commands < MAX_COMMANDS) {
                if (!readCommand(from)) {
                    return stop;
                }
                commands++;
                if (stop >= length) {
                    return NOTHING;
                }
                if (text[stop] != ';') {
                    return stop;
                }
                from = stop + 1;
            }
            return from;
        }

        private boolean readCommand(int from) {
            stop = from;
            for (int kind = 0; kind < KINDS; kind++) {
                if (fits(formOf(kind), from)) {
                    kinds[commands] = kind;
                    return true;
                }
            }
            return false;
        }

        /** In a form, N stands for a number, D for a digit and W for a way. */
        private static String formOf(int kind) {
            switch (kind) {
                case POINT:
                    return "point N N";
                case TASK:
                    return "task D";
                case THERMAL:
                    return "thermal N N D";
                case AREA:
                    return "area N N N N";
                case PILOT:
                    return "pilot N";
                case LAUNCH:
                    return "launch D";
                case FLY:
                    return "fly D WN";
                case CLIMB:
                    return "climb D N";
                default:
                    return "end";
            }
        }

        private boolean fits(String form, int from) {
            int position = from;
            int slot = 0;
            for (int i = 0; i < form.length(); i++) {
                char sign = form.charAt(i);
                int width = widthOf(sign, position);
                if (width > 0 && isSlot(sign)) {
                    putNumber(slot, valueOf(sign, position, width));
                    slot++;
                }
                position += width;
                // Forms begin alike: of those that fail, the one that goes furthest tells the error.
                stop = Math.max(stop, position);
                if (width == 0) {
                    return false;
                }
            }
            return true;
        }

        private static boolean isSlot(char sign) {
            return sign == 'N' || sign == 'D' || sign == 'W';
        }

        /** How many characters of the text the sign of a form takes, 0 if it does not fit. */
        private int widthOf(char sign, int position) {
            if (sign == 'N') {
                if (!isDigitAt(position)) {
                    return 0;
                }
                return isDigitAt(position + 1) ? 2 : 1;
            }
            if (sign == 'D') {
                return isDigitAt(position) ? 1 : 0;
            }
            if (sign == 'W') {
                return wayAt(position) >= 0 ? 1 : 0;
            }
            return position >= 0 && position < length && text[position] == sign ? 1 : 0;
        }

        private int valueOf(char sign, int position, int width) {
            if (sign == 'W') {
                return wayAt(position);
            }
            int first = digitAt(position);
            return width == 2 ? 10 * first + digitAt(position + 1) : first;
        }

        private boolean isDigitAt(int position) {
            return digitAt(position) >= 0;
        }

        private int digitAt(int position) {
            if (position < 0 || position >= length) {
                return NOTHING;
            }
            char character = text[position];
            return character >= '0' && character <= '9' ? character - '0' : NOTHING;
        }

        private int wayAt(int position) {
            if (position < 0 || position >= length) {
                return NOTHING;
            }
            for (int direction = 0; direction < WAYS.length(); direction++) {
                if (WAYS.charAt(direction) == text[position]) {
                    return direction;
                }
            }
            return NOTHING;
        }

        private void putNumber(int slot, int value) {
            if (slot < MAX_NUMBERS && commands < MAX_COMMANDS) {
                numbers[commands][slot] = value;
            }
        }
    }
}
