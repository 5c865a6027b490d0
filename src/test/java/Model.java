import java.util.ArrayDeque;
import java.util.ArrayList;
import java.util.Comparator;
import java.util.Deque;
import java.util.List;
import java.util.TreeSet;
import java.util.regex.Matcher;
import java.util.regex.Pattern;

/**
 * The document once more, written with the Java library and without regard to speed: ModelTest
 * compares GlidingContest with it. An answer is a value, or the simple name of an exception.
 */
final class Model {
    private static final String INDEX = "IndexOutOfBoundsException";
    private static final String ARGUMENT = "IllegalArgumentException";
    private static final String STATE = "IllegalStateException";
    private static final String UNSUPPORTED = "UnsupportedOperationException";
    private static final String NO_ELEMENT = "NoSuchElementException";
    private static final String COMMAND = "(point \\d\\d? \\d\\d?|task \\d|thermal \\d\\d? \\d\\d? \\d"
            + "|area \\d\\d? \\d\\d? \\d\\d? \\d\\d?|pilot \\d\\d?|launch \\d|fly \\d [nesw]\\d\\d?"
            + "|climb \\d \\d\\d?|end)";
    private static final Pattern PROGRAM = Pattern.compile(COMMAND + "(;" + COMMAND + ")*");

    /** A position, or one of the pairs of numbers that are kept like it. */
    private record Spot(int x, int y) {
        int to(Spot other) {
            return Math.abs(x - other.x) + Math.abs(y - other.y);
        }
    }

    private record Thermal(Spot spot, int strength) {
    }

    private record Area(int west, int south, int east, int north) {
        boolean has(Spot spot) {
            return spot.x >= west && spot.x <= east && spot.y >= south && spot.y <= north;
        }
    }

    private record Pilot(int ratio, char phase, Spot spot, int height, int minutes, int penalty,
            int reached, long total) {
        Pilot waiting(long newTotal) {
            return new Pilot(ratio, '-', new Spot(0, 0), 0, 0, 0, 0, newTotal);
        }
    }

    private List<Spot> points = new ArrayList<>();
    private List<Integer> task = new ArrayList<>();
    private List<Thermal> thermals = new ArrayList<>();
    private List<Area> areas = new ArrayList<>();
    private List<Pilot> pilots = new ArrayList<>();
    private int base = 1500;
    private int days = 0;

    private final Deque<Model> undoable = new ArrayDeque<>();
    private Model savedState = null;
    private String text = "";
    private String line = "";
    private int errorPosition = -1;
    private int failedCommand = -1;

    private Model copy() {
        Model copy = new Model();
        copy.take(this);
        return copy;
    }

    private void take(Model other) {
        points = new ArrayList<>(other.points);
        task = new ArrayList<>(other.task);
        thermals = new ArrayList<>(other.thermals);
        areas = new ArrayList<>(other.areas);
        pilots = new ArrayList<>(other.pilots);
        base = other.base;
        days = other.days;
    }

    Object answer(String call, int[] a) {
        switch (call) {
            case "append":
                return append((char) a[0]);
            case "run":
                return run();
            case "undo":
                return undo();
            case "save":
                savedState = copy();
                return "";
            case "restore":
                return restore();
            case "writePilot":
                return writePilot(a[0]);
            case "writeTask":
                line = taskText();
                return line.length();
            case "addPoint", "addTaskPoint", "clearTask", "addThermal", "setCloudBase", "addArea",
                    "addPilot", "launch", "fly", "climb", "endDay":
                return changeAndKeep(call, a);
            default:
                return a.length == 0 ? query(call) : query(call, a);
        }
    }

    private Object changeAndKeep(String call, int[] a) {
        Model before = copy();
        Object answer = change(call, a);
        if (answer instanceof Integer) {
            keep(before);
        }
        return answer;
    }

    private void keep(Model before) {
        undoable.addLast(before);
        if (undoable.size() > 8) {
            undoable.removeFirst();
        }
    }

    private static boolean within(int least, int value, int greatest) {
        return least <= value && value <= greatest;
    }

    private static boolean onMap(int x, int y) {
        return within(0, x, 60) && within(0, y, 60);
    }

    private Object change(String call, int[] a) {
        switch (call) {
            case "addPoint":
                if (!onMap(a[0], a[1])) {
                    return ARGUMENT;
                }
                return points.size() == 8 ? STATE : added(points, new Spot(a[0], a[1])) - 1;
            case "addTaskPoint":
                return addTaskPoint(a[0]);
            case "clearTask":
                return clearTask();
            case "addThermal":
                if (!onMap(a[0], a[1]) || !within(1, a[2], 5)) {
                    return ARGUMENT;
                }
                return thermals.size() == 6 ? STATE
                        : added(thermals, new Thermal(new Spot(a[0], a[1]), a[2]));
            case "setCloudBase":
                return setCloudBase(a[0]);
            case "addArea":
                if (!onMap(a[0], a[1]) || !onMap(a[2], a[3]) || a[0] > a[2] || a[1] > a[3]) {
                    return ARGUMENT;
                }
                return areas.size() == 3 ? STATE
                        : added(areas, new Area(a[0], a[1], a[2], a[3]));
            case "addPilot":
                if (!within(20, a[0], 60)) {
                    return ARGUMENT;
                }
                return pilots.size() == 6 ? STATE : added(pilots,
                        new Pilot(a[0], '-', new Spot(0, 0), 0, 0, 0, 0, 0)) - 1;
            case "launch":
                return launch(a[0]);
            case "fly":
                return fly(a[0], a[1], a[2]);
            case "climb":
                return climb(a[0], a[1]);
            default:
                return endDay();
        }
    }

    private static <T> Integer added(List<T> list, T element) {
        list.add(element);
        return list.size();
    }

    private boolean planning() {
        return pilots.stream().allMatch(pilot -> pilot.phase == '-');
    }

    private Object addTaskPoint(int point) {
        if (!within(0, point, points.size() - 1)) {
            return INDEX;
        }
        if (!planning() || task.size() == 6) {
            return STATE;
        }
        if (!task.isEmpty() && stop(task.size() - 1).equals(points.get(point))) {
            return UNSUPPORTED;
        }
        return added(task, point);
    }

    private Object clearTask() {
        if (!planning()) {
            return STATE;
        }
        int size = task.size();
        task.clear();
        return size;
    }

    private Object setCloudBase(int metres) {
        if (!within(500, metres, 3000)) {
            return ARGUMENT;
        }
        int previous = base;
        base = metres;
        return previous;
    }

    private Object launch(int index) {
        if (!within(0, index, pilots.size() - 1)) {
            return INDEX;
        }
        Pilot pilot = pilots.get(index);
        if (pilot.phase != '-') {
            return STATE;
        }
        if (task.size() < 2) {
            return UNSUPPORTED;
        }
        pilots.set(index, new Pilot(pilot.ratio, 'f', stop(0), 1000, 0, 0, 1, pilot.total));
        return (int) pilots.stream().filter(other -> other.phase == 'f').count();
    }

    private Spot stop(int position) {
        return points.get(task.get(position));
    }

    private Spot next(Pilot pilot) {
        return stop(pilot.reached);
    }

    private Pilot kilometre(Pilot pilot, int direction) {
        int[][] ways = {{0, 1}, {1, 0}, {0, -1}, {-1, 0}};
        Spot spot = new Spot(pilot.spot.x + ways[direction][0], pilot.spot.y + ways[direction][1]);
        int height = Math.max(0, pilot.height - 1000 / pilot.ratio);
        int penalty = pilot.penalty + (restricted(spot) ? 10 : 0);
        int reached = pilot.reached + (next(pilot).equals(spot) ? 1 : 0);
        char phase = reached == task.size() ? '!' : height == 0 ? 'l' : 'f';
        return new Pilot(pilot.ratio, phase, spot, height, pilot.minutes + 1, penalty, reached,
                pilot.total);
    }

    private boolean restricted(Spot spot) {
        return areas.stream().anyMatch(area -> area.has(spot));
    }

    private Object fly(int index, int direction, int kilometres) {
        if (!within(0, index, pilots.size() - 1)) {
            return INDEX;
        }
        if (!within(0, direction, 3) || !within(1, kilometres, 60)) {
            return ARGUMENT;
        }
        Pilot pilot = pilots.get(index);
        if (pilot.phase != 'f') {
            return STATE;
        }
        int[] room = {60 - pilot.spot.y, 60 - pilot.spot.x, pilot.spot.y, pilot.spot.x};
        if (kilometres > room[direction]) {
            return UNSUPPORTED;
        }
        int flown = 0;
        for (; flown < kilometres && pilot.phase == 'f'; flown++) {
            pilot = kilometre(pilot, direction);
        }
        pilots.set(index, pilot);
        return flown;
    }

    private int strongest(Spot spot) {
        return thermals.stream().filter(thermal -> thermal.spot.to(spot) <= 2)
                .mapToInt(Thermal::strength).max().orElse(0);
    }

    private Object climb(int index, int minutes) {
        if (!within(0, index, pilots.size() - 1)) {
            return INDEX;
        }
        if (!within(1, minutes, 30)) {
            return ARGUMENT;
        }
        Pilot pilot = pilots.get(index);
        if (pilot.phase != 'f') {
            return STATE;
        }
        int strength = strongest(pilot.spot);
        if (strength == 0) {
            return UNSUPPORTED;
        }
        int height = pilot.height;
        for (int minute = 0; minute < minutes && height < base; minute++) {
            height = Math.min(base, height + 60 * strength);
        }
        pilots.set(index, new Pilot(pilot.ratio, 'f', pilot.spot, height, pilot.minutes + minutes,
                pilot.penalty, pilot.reached, pilot.total));
        return height;
    }

    private Object endDay() {
        if (planning() || pilots.stream().anyMatch(pilot -> pilot.phase == 'f')) {
            return STATE;
        }
        int finished = (int) pilots.stream().filter(pilot -> pilot.phase == '!').count();
        List<Pilot> rested = new ArrayList<>();
        for (Pilot pilot : pilots) {
            rested.add(pilot.waiting(pilot.total + score(pilot)));
        }
        pilots = rested;
        days++;
        return finished;
    }

    private int taskDistance(int from, int to) {
        int sum = 0;
        for (int i = from; i < to; i++) {
            sum += stop(i).to(stop(i + 1));
        }
        return sum;
    }

    private int achieved(Pilot pilot) {
        switch (pilot.phase) {
            case '-':
                return 0;
            case '!':
                return taskDistance(0, task.size() - 1);
            default:
                int leg = stop(pilot.reached - 1).to(next(pilot));
                int gain = leg - pilot.spot.to(next(pilot));
                return taskDistance(0, pilot.reached - 1) + (gain > 0 ? gain : 0);
        }
    }

    private int score(Pilot pilot) {
        if (pilot.phase == '-') {
            return 0;
        }
        int score = 1000 * achieved(pilot) / taskDistance(0, task.size() - 1);
        if (pilot.phase == '!') {
            int least = pilots.stream().filter(other -> other.phase == '!')
                    .mapToInt(Pilot::minutes).min().orElse(0);
            score += 500 * least / pilot.minutes;
        }
        return Math.max(0, score - pilot.penalty);
    }

    private Object append(char character) {
        if (text.length() == 60) {
            return STATE;
        }
        text += character;
        return text.length();
    }

    private Object run() {
        String program = text;
        text = "";
        if (!PROGRAM.matcher(program).matches()) {
            errorPosition = errorOf(program);
            return ARGUMENT;
        }
        Model before = copy();
        String[] commands = program.split(";");
        for (int i = 0; i < commands.length; i++) {
            if (!(command(commands[i].split(" ")) instanceof Integer)) {
                take(before);
                failedCommand = i;
                return UNSUPPORTED;
            }
        }
        keep(before);
        return commands.length;
    }

    private static int errorOf(String program) {
        int length = 0;
        while (length < program.length()) {
            Matcher matcher = PROGRAM.matcher(program.substring(0, length + 1));
            if (!matcher.matches() && !matcher.hitEnd()) {
                return length;
            }
            length++;
        }
        return length;
    }

    private Object command(String[] words) {
        List<Integer> numbers = new ArrayList<>();
        for (int i = 1; i < words.length; i++) {
            int way = "nesw".indexOf(words[i].charAt(0));
            if (way >= 0) {
                numbers.add(way);
            }
            numbers.add(Integer.parseInt(way >= 0 ? words[i].substring(1) : words[i]));
        }
        int[] a = numbers.stream().mapToInt(Integer::intValue).toArray();
        List<String> names = List.of("point", "addPoint", "task", "addTaskPoint",
                "thermal", "addThermal", "area", "addArea", "pilot", "addPilot",
                "launch", "launch", "fly", "fly", "climb", "climb");
        int place = names.indexOf(words[0]);
        return change(place < 0 ? "endDay" : names.get(place + 1), a);
    }

    private Object undo() {
        if (undoable.isEmpty()) {
            return STATE;
        }
        take(undoable.removeLast());
        return undoable.size();
    }

    private Object restore() {
        if (savedState == null) {
            return STATE;
        }
        take(savedState);
        undoable.clear();
        return "";
    }

    private Object writePilot(int index) {
        if (!within(0, index, pilots.size() - 1)) {
            return INDEX;
        }
        Pilot pilot = pilots.get(index);
        line = index + String.valueOf(pilot.phase);
        if (pilot.phase != '-') {
            line += pilot.spot.x + "," + pilot.spot.y + " " + pilot.height + "m " + pilot.reached
                    + "/" + task.size() + (pilot.penalty == 0 ? "" : " -" + pilot.penalty);
        }
        return line.length();
    }

    private String taskText() {
        StringBuilder builder = new StringBuilder();
        for (int i = 0; i < task.size(); i++) {
            builder.append(i == 0 ? "" : "-" + stop(i - 1).to(stop(i)) + ">").append(task.get(i));
        }
        return builder.toString();
    }

    private Object query(String call) {
        switch (call) {
            case "pointCount":
                return points.size();
            case "taskLength":
                return task.size();
            case "taskDistance":
                return taskDistance(0, task.size() - 1);
            case "cloudBase":
                return base;
            case "pilotCount":
                return pilots.size();
            case "isPlanning":
                return planning();
            case "days":
                return days;
            case "meanScore":
                int sum = pilots.stream().mapToInt(this::score).sum();
                return pilots.isEmpty() ? "ArithmeticException" : (Object) (sum / (double) pilots.size());
            case "isConsistent":
                return true;
            case "errorPosition":
                return errorPosition < 0 ? NO_ELEMENT : errorPosition;
            default:
                return failedCommand < 0 ? NO_ELEMENT : failedCommand;
        }
    }

    private Object query(String call, int[] a) {
        switch (call) {
            case "distance":
                boolean known = within(0, a[0], points.size() - 1) && within(0, a[1], points.size() - 1);
                return known ? points.get(a[0]).to(points.get(a[1])) : INDEX;
            case "taskPoint":
                return within(0, a[0], task.size() - 1) ? task.get(a[0]) : NO_ELEMENT;
            case "strongestThermal":
                if (!onMap(a[0], a[1])) {
                    return ARGUMENT;
                }
                int strength = strongest(new Spot(a[0], a[1]));
                return strength == 0 ? NO_ELEMENT : strength;
            case "isRestricted":
                return onMap(a[0], a[1]) ? restricted(new Spot(a[0], a[1])) : ARGUMENT;
            case "restrictedInRow", "restrictedInRowByRanges":
                return within(0, a[0], 60) ? inRow(a[0]) : ARGUMENT;
            case "pilotAtRank":
                return within(0, a[0], pilots.size() - 1) ? ranking().get(a[0]) : NO_ELEMENT;
            case "outputAt":
                return within(0, a[0], line.length() - 1) ? line.charAt(a[0]) : INDEX;
            default:
                return within(0, a[0], pilots.size() - 1)
                        ? ofPilot(call, pilots.get(a[0])) : INDEX;
        }
    }

    private Object inRow(int y) {
        TreeSet<Integer> covered = new TreeSet<>();
        for (Area area : areas) {
            for (int x = area.west; x <= area.east; x++) {
                if (area.has(new Spot(x, y))) {
                    covered.add(x);
                }
            }
        }
        return covered.size();
    }

    private List<Integer> ranking() {
        List<Integer> ranking = new ArrayList<>();
        for (int i = 0; i < pilots.size(); i++) {
            ranking.add(i);
        }
        Comparator<Integer> bySum = Comparator.comparing(
                i -> -(pilots.get(i).total + score(pilots.get(i))));
        ranking.sort(bySum.thenComparing(i -> pilots.get(i).penalty));
        return ranking;
    }

    private Object ofPilot(String call, Pilot pilot) {
        switch (call) {
            case "isFlying":
                return pilot.phase == 'f';
            case "isLanded":
                return pilot.phase == 'l';
            case "isFinished":
                return pilot.phase == '!';
            case "sink":
                return 1000 / pilot.ratio;
            case "reached":
                return pilot.reached;
            case "achievedDistance":
                return achieved(pilot);
            case "dayScore":
                return score(pilot);
            case "total":
                return pilot.total;
            case "speed":
                return pilot.phase != '!' ? STATE
                        : (Object) ((float) taskDistance(0, task.size() - 1) / pilot.minutes);
            case "remainingDistance":
                return pilot.phase != 'f' ? STATE : (Object) left(pilot);
            case "canFinish", "canFinishBySimulation":
                return pilot.phase != 'f' ? STATE : (Object) finishes(pilot);
            default:
                return pilot.phase == '-' ? STATE : (Object) ofLaunched(call, pilot);
        }
    }

    private int ofLaunched(String call, Pilot pilot) {
        switch (call) {
            case "x":
                return pilot.spot.x;
            case "y":
                return pilot.spot.y;
            case "height":
                return pilot.height;
            case "minutes":
                return pilot.minutes;
            default:
                return pilot.penalty;
        }
    }

    private int left(Pilot pilot) {
        return pilot.spot.to(next(pilot)) + taskDistance(pilot.reached, task.size() - 1);
    }

    private boolean finishes(Pilot pilot) {
        Pilot flying = pilot;
        while (flying.phase == 'f') {
            Spot next = next(flying);
            int direction = next.x > flying.spot.x ? 1 : next.x < flying.spot.x ? 3
                    : next.y > flying.spot.y ? 0 : 2;
            flying = kilometre(flying, direction);
        }
        return flying.phase == '!';
    }
}
