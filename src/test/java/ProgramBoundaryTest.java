import java.util.function.Consumer;

/** The boundary cases of the promises 46 to 49: programs. */
public final class ProgramBoundaryTest {
    private static final String FIFTEEN_ENDS =
            "end;end;end;end;end;end;end;end;end;end;end;end;end;end;end";

    public static void main(String[] args) {
        Promises.check(ProgramBoundaryTest.class);
    }

    private static void fails(Due due, GlidingContest c, String text, int command) {
        Fixture.type(c, text);
        due.unsupported(c::run);
        due.is(c.failedCommand(), command);
    }

    private static void isNoProgram(Due due, String text, int position) {
        GlidingContest c = new GlidingContest();
        Fixture.type(c, text);
        due.argument(c::run);
        due.is(c.errorPosition(), position);
    }

    // ---- promise 46

    private static GlidingContest withText(int length) {
        GlidingContest c = new GlidingContest();
        for (int i = 0; i < length; i++) {
            c.append('e');
        }
        return c;
    }

    static void promise46_append_edge_countsFromOne(Due due) {
        GlidingContest c = new GlidingContest();
        for (int length = 1; length <= 60; length++) {
            due.is(c.append(';'), length);
        }
    }

    static void promise46_append_full_sixtieth(Due due) {
        due.is(withText(59).append('x'), 60);
    }

    static void promise46_append_state_sixtyFirst(Due due) {
        GlidingContest c = withText(60);
        due.state(() -> c.append('e'));
        due.state(() -> c.append((char) 0));
    }

    static void promise46_append_kept_textAfterTheSixtyFirst(Due due) {
        GlidingContest c = new GlidingContest();
        Fixture.type(c, "pilot 20;pilot 21;pilot 22;pilot 23;pilot 24;pilot 25;end;en");
        due.kept(c, () -> c.append('d'));
        due.argument(c::run);
        due.is(c.errorPosition(), 60);
    }

    static void promise46_append_edge_anyCharacter(Due due) {
        GlidingContest c = new GlidingContest();
        due.is(c.append((char) 0), 1);
        due.is(c.append('\n'), 2);
        due.is(c.append((char) 255), 3);
        due.is(c.append((char) 256), 4);
        due.is(c.append(Character.MAX_VALUE), 5);
    }

    static void promise46_append_empty_afterRun(Due due) {
        GlidingContest c = withText(60);
        due.argument(c::run);
        due.is(c.append('e'), 1);
    }

    // ---- promise 47

    static void promise47_run_argument_emptyText(Due due) {
        isNoProgram(due, "", 0);
    }

    static void promise47_run_argument_properPrefixes(Due due) {
        String program = "point 1 2;area 3 4 5 6;fly 7 n8;climb 9 10;end";
        int[] ends = {"point 1 2".length(), "point 1 2;area 3 4 5 6".length(),
            "point 1 2;area 3 4 5 6;fly 7 n8".length(), program.length() - "0;end".length(),
            program.length() - ";end".length()};
        for (int length = 0; length < program.length(); length++) {
            boolean whole = false;
            for (int end : ends) {
                whole = whole || length == end;
            }
            if (!whole) {
                isNoProgram(due, program.substring(0, length), length);
            }
        }
    }

    static void promise47_run_argument_noCommandAfterASemicolon(Due due) {
        isNoProgram(due, "end;", 4);
        isNoProgram(due, "end;;end", 4);
        isNoProgram(due, ";end", 0);
        isNoProgram(due, FIFTEEN_ENDS + ";", 60);
    }

    static void promise47_run_argument_noDigit(Due due) {
        isNoProgram(due, "point  1", 6);
        isNoProgram(due, "point 1  2", 8);
        isNoProgram(due, "task -1", 5);
        isNoProgram(due, "thermal 1 2 x", 12);
        isNoProgram(due, "area 1 2 3 ;", 11);
        isNoProgram(due, "fly 0 n;", 7);
    }

    static void promise47_run_argument_threeDigits(Due due) {
        isNoProgram(due, "point 100 1", 8);
        isNoProgram(due, "point 1 100", 10);
        isNoProgram(due, "area 1 2 3 100", 13);
        isNoProgram(due, "pilot 020", 8);
        isNoProgram(due, "fly 0 e100", 9);
        isNoProgram(due, "climb 0 100", 10);
    }

    static void promise47_run_argument_twoDigitsForOne(Due due) {
        isNoProgram(due, "task 00", 6);
        isNoProgram(due, "thermal 1 1 01", 13);
        isNoProgram(due, "launch 00", 8);
        isNoProgram(due, "fly 00 n1", 5);
        isNoProgram(due, "climb 00 1", 7);
    }

    static void promise47_run_argument_signsBesideTheDigits(Due due) {
        isNoProgram(due, "task /", 5);
        isNoProgram(due, "task :", 5);
        isNoProgram(due, "pilot 2/", 7);
        isNoProgram(due, "pilot 2:", 7);
        isNoProgram(due, "task " + (char) 0x660, 5);
        isNoProgram(due, "task " + (char) ('0' + 256), 5);
    }

    static void promise47_run_argument_noWay(Due due) {
        isNoProgram(due, "fly 0 x1", 6);
        isNoProgram(due, "fly 0 N1", 6);
        isNoProgram(due, "fly 0 1", 6);
        isNoProgram(due, "fly 0 n 1", 7);
    }

    static void promise47_run_argument_wordsCutOrLonger(Due due) {
        isNoProgram(due, "endx", 3);
        isNoProgram(due, "en;end", 2);
        isNoProgram(due, "tasks 1", 4);
        isNoProgram(due, "pint", 2);
        isNoProgram(due, "tend", 1);
        isNoProgram(due, "END", 0);
        isNoProgram(due, " end", 0);
        isNoProgram(due, "end ", 3);
    }

    static void promise47_run_edge_oneAndTwoDigits(Due due) {
        GlidingContest c = new GlidingContest();
        due.is(Fixture.runText(c, "point 0 9;point 00 09;point 10 60"), 3);
        due.is(c.distance(0, 1), 0);
        due.is(c.distance(0, 2), 10 + 51);
        due.is(Fixture.runText(c, "area 0 00 60 60;pilot 60"), 2);
        due.is(c.restrictedInRow(60), 61);
        due.is(c.sink(0), 16);
    }

    static void promise47_run_edge_eachWay(Due due) {
        String[] ways = {"n", "e", "s", "w"};
        String[] lines = {"0f10,12 900m 1/3", "0f12,10 900m 1/3", "0f10,8 900m 1/3",
            "0f8,10 900m 1/3"};
        for (int direction = 0; direction < 4; direction++) {
            GlidingContest c = Fixture.withTask(20);
            due.is(Fixture.runText(c, "launch 0;fly 0 " + ways[direction] + "2"), 2);
            due.is(Fixture.pilotLine(c, 0), lines[direction]);
        }
    }

    static void promise47_run_edge_oneCommand(Due due) {
        GlidingContest c = new GlidingContest();
        due.is(Fixture.runText(c, "pilot 20"), 1);
        due.is(c.pilotCount(), 1);
    }

    static void promise47_run_full_textOfSixtyCharacters(Due due) {
        GlidingContest c = new GlidingContest();
        String cut = "point 10 10;point 20 20;point 30 30;point 40 40;point 50 5;e";
        due.is(cut.length(), 60);
        Fixture.type(c, cut);
        due.argument(c::run);
        due.is(c.errorPosition(), 60);
        String whole = "point 10 10;point 20 20;point 30 30;point 40 40;area 1 1 9 9";
        due.is(whole.length(), 60);
        Fixture.type(c, whole);
        due.is(c.run(), 5);
        due.is(c.pointCount(), 4);
        due.is(c.restrictedInRow(9), 9);
    }

    static void promise47_run_full_fifteenCommands(Due due) {
        GlidingContest c = new GlidingContest();
        fails(due, c, FIFTEEN_ENDS, 0);
    }

    static void promise47_run_unsupported_firstCommand(Due due) {
        fails(due, new GlidingContest(), "pilot 19;pilot 20", 0);
    }

    static void promise47_run_unsupported_lastCommand(Due due) {
        fails(due, new GlidingContest(), "pilot 20;pilot 60;pilot 61", 2);
    }

    /** One command for each exception that a method could throw. */
    static void promise47_run_unsupported_whateverTheMethodThrows(Due due) {
        String[] commands = {"point 61 0", "task 3", "task 2", "thermal 0 0 6", "thermal 0 0 0",
            "area 1 0 0 0", "area 0 0 61 0", "pilot 19", "pilot 61", "launch 1", "launch 0",
            "fly 1 n1", "fly 0 n0", "fly 0 n61", "fly 0 w11", "climb 1 1", "climb 0 0",
            "climb 0 31", "climb 0 1", "end"};
        for (String command : commands) {
            GlidingContest c = Fixture.withTask(20);
            c.launch(0);
            fails(due, c, command, 0);
            fails(due, c, "point 1 1;" + command, 1);
        }
    }

    static void promise47_run_unsupported_eachNumberOutOfRange(Due due) {
        String[] commands = {"point 61 0", "point 0 61", "thermal 61 0 1", "thermal 0 61 1",
            "thermal 1 1 0", "thermal 1 1 6", "area 61 0 61 0", "area 0 61 0 61", "area 2 0 1 5",
            "area 0 0 61 0", "area 0 2 5 1", "area 0 0 5 61", "pilot 19", "pilot 61", "launch 9",
            "fly 9 n1", "fly 0 n0", "fly 0 n61", "climb 9 1", "climb 0 0", "climb 0 31"};
        for (String command : commands) {
            GlidingContest c = flyingInThermal();
            fails(due, c, command, 0);
        }
    }

    private static GlidingContest flyingInThermal() {
        GlidingContest c = Fixture.withTask(20, 60);
        c.addThermal(10, 10, 2);
        c.launch(1);
        return c;
    }

    /** Beside the view, counts tell whether a call has been made that the command does not ask. */
    private static String countsOf(GlidingContest c) {
        return View.of(c) + " " + c.addThermal(0, 0, 1) + c.addArea(0, 0, 0, 0);
    }

    private static void sameAs(Due due, String command, Consumer<GlidingContest> call) {
        GlidingContest typed = flyingInThermal();
        due.is(Fixture.runText(typed, command), 1);
        GlidingContest called = flyingInThermal();
        call.accept(called);
        due.is(countsOf(typed), countsOf(called));
    }

    static void promise47_run_edge_eachCommandCallsItsMethod(Due due) {
        sameAs(due, "point 60 11", c -> c.addPoint(60, 11));
        sameAs(due, "thermal 20 18 5", c -> c.addThermal(20, 18, 5));
        sameAs(due, "area 3 10 20 11", c -> c.addArea(3, 10, 20, 11));
        sameAs(due, "pilot 33", c -> c.addPilot(33));
        sameAs(due, "launch 0", c -> c.launch(0));
        sameAs(due, "fly 1 w7", c -> c.fly(1, Fixture.WEST, 7));
        sameAs(due, "climb 1 3", c -> c.climb(1, 3));
    }

    static void promise47_run_edge_numbersInTheirOrder(Due due) {
        GlidingContest c = new GlidingContest();
        Fixture.runText(c, "thermal 40 9 5;area 3 10 20 12");
        due.is(c.strongestThermal(42, 9), 5);
        due.is(c.strongestThermal(40, 11), 5);
        due.noElement(() -> c.strongestThermal(9, 40));
        due.is(c.isRestricted(3, 10) && c.isRestricted(20, 12), true);
        due.is(c.isRestricted(2, 10) || c.isRestricted(21, 10), false);
        due.is(c.isRestricted(3, 9) || c.isRestricted(3, 13), false);
    }

    static void promise47_run_edge_numbersOfAnEarlierProgramAreGone(Due due) {
        GlidingContest c = Fixture.withTask(20);
        Fixture.runText(c, "area 5 1 6 6");
        Fixture.runText(c, "launch 0");
        due.is(Fixture.pilotLine(c, 0), "0f10,10 1000m 1/3");
        due.is(c.minutes(0), 0);
    }

    static void promise47_run_edge_taskAndEndCallTheirMethods(Due due) {
        GlidingContest c = Fixture.withTask(20);
        due.is(Fixture.runText(c, "task 0"), 1);
        due.is(Fixture.taskLine(c), "0-10>1-8>2-18>0");
        c.undo();
        c.clearTask();
        c.addTaskPoint(0);
        due.is(Fixture.runText(c, "task 1;task 2"), 2);
        due.is(Fixture.taskLine(c), "0-10>1-8>2");
        due.is(Fixture.runText(c, "launch 0;fly 0 e10;fly 0 n8;end"), 4);
        due.is(c.total(0), 1500L);
        due.is(c.days(), 1);
        due.is(c.addThermal(0, 0, 1), 1);
        due.is(c.addArea(0, 0, 0, 0), 1);
    }

    static void promise47_run_unsupported_fullMap(Due due) {
        GlidingContest c = new GlidingContest();
        Fixture.runText(c, "area 0 0 0 0;area 0 0 0 0;area 0 0 0 0");
        fails(due, c, "area 0 0 0 0", 0);
        for (int i = 0; i < 6; i++) {
            c.addThermal(1, 1, 1);
            c.addPilot(20);
            c.addPoint(i, i);
        }
        fails(due, c, "thermal 1 1 1", 0);
        fails(due, c, "pilot 20", 0);
        fails(due, c, "point 6 6;point 7 7;point 8 8", 2);
        Fixture.runText(c, "task 0;task 1;task 0;task 1;task 0;task 1");
        fails(due, c, "task 0", 0);
    }

    static void promise47_run_edge_commandsSeeThoseBeforeThem(Due due) {
        GlidingContest c = new GlidingContest();
        due.is(Fixture.runText(c, "point 0 0;point 2 0;task 0;task 1;pilot 20;launch 0"), 6);
        due.is(Fixture.runText(c, "fly 0 e9;end"), 2);
        due.is(c.days(), 1);
        due.is(c.total(0), 1500L);
    }

    static void promise47_run_first_noProgramBeforeAFailingCommand(Due due) {
        GlidingContest c = new GlidingContest();
        Fixture.type(c, "end;en");
        due.argument(c::run);
        due.is(c.errorPosition(), 6);
        due.noElement(c::failedCommand);
        Fixture.type(c, "pilot 99 ");
        due.argument(c::run);
        due.is(c.errorPosition(), 8);
    }

    static void promise47_run_kept_afterAFailingCommand(Due due) {
        GlidingContest c = Fixture.withTask(20, 60);
        c.addThermal(10, 10, 1);
        c.launch(0);
        fails(due, c, "task 9", 0);
        String before = View.of(c);
        fails(due, c, "fly 0 e1;climb 0 1;point 5 5;pilot 30;launch 1;launch 1", 5);
        due.is(View.of(c).replace("failed=5", "failed=0"), before);
        due.is(c.undo(), 7);
        due.is(c.isPlanning(), true);
    }

    static void promise47_run_kept_afterAFailureBehindTheEndOfADay(Due due) {
        GlidingContest c = Fixture.withTask(20);
        c.launch(0);
        Fixture.finish(c, 0);
        fails(due, c, "end;launch 0;end", 2);
        due.is(c.days(), 0);
        due.is(c.total(0), 0L);
        due.is(Fixture.pilotLine(c, 0), "0!20,18 100m 3/3");
    }

    static void promise47_run_kept_afterNoProgram(Due due) {
        GlidingContest c = new GlidingContest();
        Fixture.type(c, "pilot 20;pilot 30;x");
        due.argument(c::run);
        due.is(c.pilotCount(), 0);
        due.state(c::undo);
    }

    static void promise47_run_empty_bufferInEveryCase(Due due) {
        GlidingContest c = new GlidingContest();
        Fixture.runText(c, "pilot 20");
        due.is(c.append('x'), 1);
        due.argument(c::run);
        due.is(c.append('e'), 1);
        Fixture.type(c, "nd");
        due.unsupported(c::run);
        due.is(c.append('p'), 1);
        due.argument(c::run);
        due.is(c.errorPosition(), 1);
    }

    // ---- promise 48

    static void promise48_errorPosition_noElement_noneStored(Due due) {
        GlidingContest c = new GlidingContest();
        due.noElement(c::errorPosition);
        c.append('x');
        due.noElement(c::errorPosition);
    }

    static void promise48_errorPosition_noElement_afterAProgram(Due due) {
        GlidingContest c = new GlidingContest();
        Fixture.runText(c, "pilot 20");
        due.noElement(c::errorPosition);
    }

    static void promise48_errorPosition_noElement_afterAFailedCommand(Due due) {
        GlidingContest c = new GlidingContest();
        fails(due, c, "end", 0);
        due.noElement(c::errorPosition);
    }

    static void promise48_errorPosition_edge_leastAndGreatest(Due due) {
        isNoProgram(due, "", 0);
        isNoProgram(due, "x", 0);
        isNoProgram(due, FIFTEEN_ENDS + "x", 59);
        isNoProgram(due, FIFTEEN_ENDS + ";", 60);
    }

    static void promise48_errorPosition_edge_firstOfSeveralErrors(Due due) {
        isNoProgram(due, "enx;xx", 2);
        isNoProgram(due, "end;tx;x", 5);
    }

    static void promise48_errorPosition_edge_theLastStored(Due due) {
        GlidingContest c = new GlidingContest();
        Fixture.type(c, "en");
        due.argument(c::run);
        due.is(c.errorPosition(), 2);
        Fixture.type(c, "x");
        due.argument(c::run);
        due.is(c.errorPosition(), 0);
    }

    static void promise48_errorPosition_edge_staysOtherwise(Due due) {
        GlidingContest c = new GlidingContest();
        c.save();
        Fixture.type(c, "end;p");
        due.argument(c::run);
        Fixture.runText(c, "pilot 20");
        due.is(c.errorPosition(), 5);
        fails(due, c, "end", 0);
        due.is(c.errorPosition(), 5);
        c.undo();
        due.is(c.errorPosition(), 5);
        c.restore();
        due.is(c.errorPosition(), 5);
    }

    // ---- promise 49

    static void promise49_failedCommand_noElement_noneStored(Due due) {
        GlidingContest c = new GlidingContest();
        due.noElement(c::failedCommand);
        due.state(c::endDay);
        due.noElement(c::failedCommand);
    }

    static void promise49_failedCommand_noElement_afterAProgram(Due due) {
        GlidingContest c = new GlidingContest();
        Fixture.runText(c, "pilot 20");
        due.noElement(c::failedCommand);
    }

    static void promise49_failedCommand_noElement_afterNoProgram(Due due) {
        GlidingContest c = new GlidingContest();
        Fixture.type(c, "end;x");
        due.argument(c::run);
        due.noElement(c::failedCommand);
    }

    static void promise49_failedCommand_edge_leastAndGreatest(Due due) {
        fails(due, new GlidingContest(), "end", 0);
        GlidingContest c = Fixture.withTask(20, 20, 20, 20, 20, 20);
        for (int pilot = 0; pilot < 6; pilot++) {
            c.launch(pilot);
            Fixture.finish(c, pilot);
        }
        fails(due, c, "end;" + FIFTEEN_ENDS.substring(4), 1);
    }

    static void promise49_failedCommand_edge_theFirstThatFails(Due due) {
        fails(due, new GlidingContest(), "pilot 20;end;pilot 19", 1);
    }

    static void promise49_failedCommand_edge_theLastStored(Due due) {
        GlidingContest c = new GlidingContest();
        fails(due, c, "pilot 20;pilot 20;end", 2);
        fails(due, c, "end", 0);
    }

    static void promise49_failedCommand_edge_staysOtherwise(Due due) {
        GlidingContest c = new GlidingContest();
        c.save();
        fails(due, c, "pilot 20;end", 1);
        Fixture.runText(c, "pilot 20");
        due.is(c.failedCommand(), 1);
        Fixture.type(c, "x");
        due.argument(c::run);
        due.is(c.failedCommand(), 1);
        c.undo();
        due.is(c.failedCommand(), 1);
        c.restore();
        due.is(c.failedCommand(), 1);
    }
}
