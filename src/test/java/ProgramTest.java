import java.util.regex.Matcher;
import java.util.regex.Pattern;

/** Promises 46 to 49: programs. */
public final class ProgramTest {
    private static final Due due = new Due("ProgramTest");
    private static final String COMMAND = "(point \\d\\d? \\d\\d?|task \\d|thermal \\d\\d? \\d\\d? \\d"
            + "|area \\d\\d? \\d\\d? \\d\\d? \\d\\d?|pilot \\d\\d?|launch \\d|fly \\d [nesw]\\d\\d?"
            + "|climb \\d \\d\\d?|end)";
    private static final Pattern PROGRAM = Pattern.compile(COMMAND + "(;" + COMMAND + ")*");

    public static void main(String[] args) {
        append();
        eachCommand();
        numbers();
        longestPrograms();
        failedCommands();
        failureUndoesAll();
        bufferIsEmptied();
        errorPositions();
        errorPositionsOfChangedTexts();
        storedPositions();
        due.finish();
    }

    private static void append() {
        GlidingContest c = new GlidingContest();
        for (int i = 1; i <= 60; i++) {
            due.answer("append", c.append((char) (i * 1000)), i);
        }
        due.thrown("a 61st character", Fixture.STATE, () -> c.append('e'));
        due.thrown("run", Fixture.ARGUMENT, c::run);
        due.answer("append after run", c.append((char) 0), 1);
        due.answer("append is not a changing call", Fixture.undoAll(c), 0);
        due.answer("undo leaves the buffer", c.append(Character.MAX_VALUE), 2);
        c.save();
        c.append('x');
        c.restore();
        due.answer("restore leaves the buffer", c.append('x'), 4);
    }

    private static void eachCommand() {
        GlidingContest c = new GlidingContest();
        due.answer("points", Fixture.runText(c, "point 10 11;point 20 11;point 0 5"), 3);
        due.answer("distance", c.distance(0, 1), 10);
        due.answer("the third point", c.distance(0, 2), 16);
        due.answer("task", Fixture.runText(c, "task 0;task 1"), 2);
        due.answer("taskPoint", c.taskPoint(1), 1);
        due.answer("thermal", Fixture.runText(c, "thermal 10 14 5"), 1);
        due.answer("strongestThermal", c.strongestThermal(10, 16), 5);
        due.answer("area", Fixture.runText(c, "area 9 13 11 13"), 1);
        due.answer("the west edge", c.isRestricted(9, 13), true);
        due.answer("the east edge", c.isRestricted(11, 13), true);
        due.answer("beyond it", c.isRestricted(12, 13), false);
        due.answer("the row above", c.restrictedInRow(14), 0);
        due.answer("pilot", Fixture.runText(c, "pilot 20;pilot 60"), 2);
        due.answer("sinks", c.sink(0) * 100 + c.sink(1), 5016);
        due.answer("launch", Fixture.runText(c, "launch 1"), 1);
        due.answer("isFlying", c.isFlying(1), true);
        due.answer("fly", Fixture.runText(c, "fly 1 n5"), 1);
        due.answer("to the north", Fixture.pilotLine(c, 1), "1f10,16 920m 1/2 -10");
        Fixture.runText(c, "fly 1 w2;fly 1 s1");
        due.answer("to the west and south", Fixture.pilotLine(c, 1), "1f8,15 872m 1/2 -10");
        due.answer("climb", Fixture.runText(c, "fly 1 e1;climb 1 1"), 2);
        due.answer("to the east and up", Fixture.pilotLine(c, 1), "1f9,15 1156m 1/2 -10");
        Fixture.runText(c, "fly 1 s4;fly 1 e11");
        due.answer("finished", c.isFinished(1), true);
        due.answer("end", Fixture.runText(c, "end"), 1);
        due.answer("days", c.days(), 1);
        due.answer("a whole day", Fixture.runText(c, "launch 0;fly 0 e30;end"), 3);
        due.answer("the total of it", c.total(0), 1500L);
    }

    private static void numbers() {
        GlidingContest c = new GlidingContest();
        due.answer("one digit", Fixture.runText(c, "point 0 9"), 1);
        due.answer("a leading zero", Fixture.runText(c, "point 00 07"), 1);
        due.answer("two digits", Fixture.runText(c, "point 60 60"), 1);
        due.answer("distance", c.distance(0, 1), 2);
        due.answer("the far corner", c.distance(1, 2), 60 + 53);
        due.thrown("a number too great", Fixture.UNSUPPORTED,
                () -> Fixture.runText(c, "point 61 0"));
        due.thrown("three digits", Fixture.ARGUMENT, () -> Fixture.runText(c, "point 100 0"));
        due.answer("errorPosition", c.errorPosition(), 8);
    }

    private static void longestPrograms() {
        GlidingContest c = new GlidingContest();
        Fixture.type(c, "end;end;end;end;end;end;end;end;end;end;end;end;end;end;end");
        due.thrown("15 ends", Fixture.UNSUPPORTED, c::run);
        due.answer("the first of them fails", c.failedCommand(), 0);
        Fixture.type(c, "end;end;end;end;end;end;end;end;end;end;end;end;end;end;end;");
        due.thrown("15 ends and a sign", Fixture.ARGUMENT, c::run);
        due.answer("a proper prefix", c.errorPosition(), 60);
        GlidingContest task = new GlidingContest();
        task.addPoint(1, 1);
        task.addPoint(2, 1);
        Fixture.type(task, "task 0;task 1;task 0;task 1;task 0;task 1;pilot 20;pilot 60");
        due.answer("59 characters", task.run(), 8);
        due.answer("taskLength", task.taskLength(), 6);
        due.answer("taskDistance", task.taskDistance(), 5);
        Fixture.type(task, "area 0 0 60 60;area 10 10 20 20;point 60 60;point 0 0;task 0");
        due.thrown("60 characters", Fixture.UNSUPPORTED, task::run);
        due.answer("the last one fails", task.failedCommand(), 4);
    }

    private static void failedCommands() {
        String[] failing = {"task 4", "task 2", "point 61 0", "point 0 61", "thermal 61 0 1",
            "thermal 1 1 0", "thermal 1 1 6", "area 5 5 4 5", "area 5 5 5 4", "area 0 0 61 0",
            "pilot 19", "pilot 61", "launch 1", "launch 9", "fly 0 n1", "fly 1 n1", "fly 0 n0",
            "fly 0 n61", "climb 0 1", "climb 1 1", "climb 0 0", "climb 0 31", "end"};
        for (String text : failing) {
            GlidingContest c = Fixture.withTask(20);
            due.thrown(text, Fixture.UNSUPPORTED, () -> Fixture.runText(c, text));
            due.answer("failedCommand of " + text, c.failedCommand(), 0);
            due.thrown("point 1 1;" + text, Fixture.UNSUPPORTED,
                    () -> Fixture.runText(c, "point 1 1;" + text));
            due.answer("failedCommand of the second: " + text, c.failedCommand(), 1);
            due.answer("no effect of " + text, c.pointCount(), 3);
            due.thrown("no error position by " + text, Fixture.NO_ELEMENT, c::errorPosition);
        }
        GlidingContest flying = Fixture.withTask(20);
        flying.launch(0);
        for (String text : new String[] {"launch 0", "fly 0 s11", "climb 0 1", "end", "task 0"}) {
            due.thrown(text + " while flying", Fixture.UNSUPPORTED,
                    () -> Fixture.runText(flying, text));
        }
    }

    private static void failureUndoesAll() {
        GlidingContest c = Fixture.withTask(20, 60);
        c.launch(0);
        Fixture.land(c, 0);
        String before = Fixture.pilotLine(c, 0);
        due.thrown("a long program", Fixture.UNSUPPORTED, () -> Fixture.runText(c,
                "end;pilot 30;point 5 5;area 0 0 1 1;launch 1;launch 1"));
        due.answer("failedCommand", c.failedCommand(), 5);
        due.answer("the day has not ended", c.days(), 0);
        due.answer("pilotCount", c.pilotCount(), 2);
        due.answer("pointCount", c.pointCount(), 3);
        due.answer("no area", c.isRestricted(0, 0), false);
        due.answer("the pilot", Fixture.pilotLine(c, 0), before);
        due.answer("the other pilot", Fixture.pilotLine(c, 1), "1-");
        due.answer("undo after a failure undoes the flight", c.undo(), 7);
        due.answer("the flight is undone", Fixture.pilotLine(c, 0), "0f10,10 1000m 1/3");
    }

    private static void bufferIsEmptied() {
        GlidingContest c = new GlidingContest();
        due.thrown("an empty text", Fixture.ARGUMENT, c::run);
        due.answer("errorPosition", c.errorPosition(), 0);
        Fixture.type(c, "pilot 20");
        c.run();
        due.answer("after a success", c.append('x'), 1);
        due.thrown("not a program", Fixture.ARGUMENT, c::run);
        due.answer("after an error", c.append('e'), 1);
        Fixture.type(c, "nd");
        due.thrown("a failing program", Fixture.UNSUPPORTED, c::run);
        due.answer("after a failure", c.append('p'), 1);
        Fixture.type(c, "ilot 30");
        due.answer("a program again", c.run(), 1);
        due.answer("pilotCount", c.pilotCount(), 2);
    }

    private static int errorOf(String text) {
        GlidingContest c = new GlidingContest();
        try {
            Fixture.runText(c, text);
        } catch (IllegalArgumentException e) {
            return c.errorPosition();
        } catch (UnsupportedOperationException e) {
            return -1;
        }
        return -1;
    }

    private static void errorPositions() {
        Object[][] texts = {{"", 0}, {"x", 0}, {" ", 0}, {";", 0}, {"p", 1}, {"po", 2}, {"pi", 2},
            {"pa", 1}, {"t", 1}, {"th", 2}, {"ta", 2}, {"to", 1}, {"e", 1}, {"en", 2}, {"end ", 3},
            {"end;", 4}, {"end;;", 4}, {"end; ", 4}, {"ended", 3}, {"End", 0}, {"fly 0 x", 6},
            {"fly 0 n", 7}, {"fly 0 n ", 7}, {"fly 0 n123", 9}, {"fly 00", 5}, {"fly  0", 4},
            {"fly 0 n1;fly 0 1", 15}, {"task", 4}, {"task ", 5}, {"task 1", -1}, {"task 12", 6},
            {"thermal 1 2 33", 13}, {"thermal 1 2", 11}, {"thermal 1 2;", 11}, {"thermal 123", 10},
            {"area 1 2 3", 10}, {"area 1 2 3;", 10}, {"area 1 2 3 4 ", 12}, {"area 11 22 33 44", -1},
            {"pilot 1a", 7}, {"pilot 12a", 8}, {"pilot -1", 6}, {"launch 12", 8}, {"climb 0 123", 10},
            {"climb 0", 7}, {"point 1", 7}, {"point 12", 8}, {"point 12 ", 9}, {"point 1,2", 7},
            {"point 1 2\n", 9}, {"end\u0000", 3}, {"\u0665nd", 0}, {"task \u0661", 5},
            {"pilot 2\u0660", 7}, {"fly 0 \u016E1", 6}, {"poinT 1 1", 4}, {"therm", 5}};
        for (Object[] row : texts) {
            due.answer("the error of \"" + row[0] + "\"", errorOf((String) row[0]), row[1]);
        }
    }

    /** The grammar as a regular expression: a prefix can be continued if it matches or could match. */
    private static int errorByPattern(String text) {
        if (PROGRAM.matcher(text).matches()) {
            return -1;
        }
        for (int length = 1; length <= text.length(); length++) {
            Matcher matcher = PROGRAM.matcher(text.substring(0, length));
            if (!matcher.matches() && !matcher.hitEnd()) {
                return length - 1;
            }
        }
        return text.length();
    }

    private static void errorPositionsOfChangedTexts() {
        String[] programs = {"point 1 22;task 3;end", "thermal 11 2 3;area 1 22 3 44;pilot 5",
            "launch 6;fly 7 w8;climb 9 10", "fly 0 n11;fly 1 e2;fly 2 s33", "end;pilot 20;task 0"};
        String signs = "0 ;aeiklmnoprtwx";
        for (String program : programs) {
            for (int at = 0; at <= program.length(); at++) {
                String head = program.substring(0, at);
                due.answer("a cut text", errorOf(head), errorByPattern(head));
                for (char sign : signs.toCharArray()) {
                    String more = head + sign + program.substring(at);
                    due.answer("the error of " + more, errorOf(more), errorByPattern(more));
                    if (at < program.length()) {
                        String other = head + sign + program.substring(at + 1);
                        due.answer("the error of " + other, errorOf(other), errorByPattern(other));
                    }
                }
            }
        }
    }

    private static void storedPositions() {
        GlidingContest c = new GlidingContest();
        due.thrown("no errorPosition", Fixture.NO_ELEMENT, c::errorPosition);
        due.thrown("no failedCommand", Fixture.NO_ELEMENT, c::failedCommand);
        due.thrown("an error", Fixture.ARGUMENT, () -> Fixture.runText(c, "end;x"));
        due.answer("errorPosition", c.errorPosition(), 4);
        due.thrown("still no failedCommand", Fixture.NO_ELEMENT, c::failedCommand);
        due.thrown("a failure", Fixture.UNSUPPORTED, () -> Fixture.runText(c, "pilot 20;end"));
        due.answer("failedCommand", c.failedCommand(), 1);
        due.answer("errorPosition stays", c.errorPosition(), 4);
        c.save();
        Fixture.runText(c, "pilot 20");
        due.answer("errorPosition after a success", c.errorPosition(), 4);
        due.answer("failedCommand after a success", c.failedCommand(), 1);
        due.thrown("another error", Fixture.ARGUMENT, () -> Fixture.runText(c, "en"));
        due.thrown("another failure", Fixture.UNSUPPORTED,
                () -> Fixture.runText(c, "pilot 20;pilot 20;task 0"));
        c.undo();
        due.answer("undo leaves errorPosition", c.errorPosition(), 2);
        due.answer("undo leaves failedCommand", c.failedCommand(), 2);
        c.restore();
        due.answer("restore leaves errorPosition", c.errorPosition(), 2);
        due.answer("restore leaves failedCommand", c.failedCommand(), 2);
    }
}
