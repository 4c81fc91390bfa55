/** Promises 26 to 34, sentence by sentence: machines, the curve, deals, runs. */
final class MachinesBounds {
    private static final String ORDER = "the first of these that fits, in this order";
    private static final String DEAL = "parts of THE CURVE one behind the other (some may be empty): "
            + "with the least greatest WORK";
    private static final String MOST_FIRST = "of alike ones that in which the first MACHINE has the most CELLS, "
            + "then the second, ..";

    private MachinesBounds() {
    }

    static void all() {
        machine();
        give();
        bears();
        bearsRefused();
        work();
        cuts();
        curve();
        deal();
        dealByWork();
        dealRefused();
        run();
        waitedFor();
        ran();
    }

    private static void machine() {
        String said = "A MACHINE is of a KIND: what it was";
        Run.test(26, said).due("machine(1, 1)", 0).due("machine(1, 2)", 1).due("machine(1, 3)", 2)
                .due("machine(1, 4)", 3).due("machine(1, 4)", 4).due("machine(1, 0)", 4).due("machine(1, 0)", 0);
        String atFirst = "MACHINES 0 .. 5 are of a KIND: 0 MACHINE (all, at first)";
        Run first = Run.test(26, atFirst).due("count(5)", 0);
        for (int m = 0; m < 6; m++) {
            first.due("machine(" + m + ", 3)", 0);
        }
        Run.test(26, atFirst).due("machine(0, 1)", 0).due("machine(5, 1)", 0)
                .bad("machine(-1, 1)", "machine(6, 1)", "machine(MIN, 0)", "machine(MAX, 0)");
        Run.test(26, "BAD").due("machine(1, 0)", 0).due("machine(1, 4)", 0)
                .bad("machine(1, -1)", "machine(1, 5)", "machine(1, MIN)", "machine(1, MAX)");
        Run.test(26, "STATE: SPARE, and it has CELLS").state("machine(0, 4)").due("machine(0, 3)", 0)
                .state("machine(0, 4)").due("machine(5, 4)", 0);
        // one CELL is enough, and a FROZEN one is one
        Run.test(26, "STATE: SPARE, and it has CELLS").make("part(15)", "part(79)", "give(335, 5)")
                .state("machine(5, 4)").make("give(335, 0)").due("machine(5, 4)", 0);
        Run.test(26, "STATE: SPARE, and it has CELLS").make("freeze(3, false)", "give(3, 5)").state("machine(5, 4)")
                .due("machine(5, 2)", 0);
        // one that had CELLS which are not there now: they were JOINED to another one's
        Run.test(26, "STATE: SPARE, and it has CELLS").make("part(0)", "give(17, 2)").state("machine(2, 4)")
                .make("join(0)").due("machine(2, 4)", 0);
        Run.test(26, "STATE: SPARE, and it has CELLS").make("deal(2)").due("machine(0, 4)", 0).state("machine(1, 4)");
        // going on gave a SPARE one CELLS: it may become another KIND, not SPARE anew
        Run.test(26, "STATE: SPARE, and it has CELLS")
                .make("give(9, 5)", "keep(0)", "give(9, 0)", "machine(5, 4)", "goOn(0)").state("machine(5, 4)")
                .due("machine(5, 0)", 4);
        Run.test(26, ORDER).bad("machine(0, 5)", "machine(6, 4)", "machine(-1, 4)");
    }

    private static void give() {
        String said = "A CELL is given to a MACHINE: to which it was";
        Run.test(27, said).due("give(0, 5)", 0).due("give(0, 0)", 5).due("give(15, 1)", 0).due("give(15, 1)", 1)
                .tells(15, 5, 1).tells(14, 5, 0);
        Run.test(27, said).make("part(15)", "part(79)").due("give(335, 3)", 0).due("give(335, 2)", 3).due("work(2)", 1)
                .tells(334, 5, 0);
        Run.test(27, "A CELL is given to one (0 at first").due("give(0, 0)", 0).due("give(15, 0)", 0);
        Run.test(27, "BAD").due("give(0, 0)", 0).due("give(0, 5)", 0)
                .bad("give(0, -1)", "give(0, 6)", "give(0, MIN)", "give(0, MAX)")
                .bad("give(-1, 0)", "give(336, 0)", "give(MIN, 0)", "give(MAX, 0)");
        Run.test(27, ORDER).make("machine(3, 4)").bad("give(16, 6)", "give(16, -1)", "give(336, 3)", "give(-1, 3)");
        Run.test(27, "NOTHING").finds(Run.NOTHING, "give(16, 0)", "give(79, 1)", "give(80, 2)", "give(335, 5)")
                .make("part(0)").finds(Run.NOTHING, "give(0, 1)");
        Run.test(27, "STATE: a SPARE one").make("machine(3, 4)", "machine(5, 4)").state("give(0, 3)", "give(15, 5)")
                .due("give(0, 2)", 0).make("machine(3, 0)").due("give(0, 3)", 2);
        Run.test(27, "(STATE behind NOTHING.)").make("machine(3, 4)").finds(Run.NOTHING, "give(16, 3)", "give(335, 3)")
                .state("give(0, 3)");
    }

    private static void bears() {
        Run.test(28, "a SLOW one its WORK").make("machine(0, 1)", "machine(5, 1)").due("bears(0, 1)", 32)
                .due("bears(5, 1)", 0).make("freeze(3, false)").due("bears(0, 1)", 30).make("give(4, 5)")
                .due("bears(5, 1)", 2).due("bears(0, 1)", 28);
        String flaky = "a FLAKY one (WRONG, too) how many CELLS it has";
        Run.test(28, flaky).make("machine(0, 2)", "machine(5, 3)").due("bears(0, 2)", 16).due("bears(5, 2)", 0)
                .make("freeze(3, false)", "give(3, 5)").due("bears(0, 2)", 15).due("bears(5, 2)", 1).make("part(0)")
                .due("bears(0, 2)", 18);
        String wrong = "a WRONG one the greatest amount of its CELLS (0 without)";
        Run.test(28, wrong).make("machine(0, 3)", "machine(5, 3)", "amount(0, 7)", "amount(15, 1000000)")
                .due("bears(0, 3)", 1000000).due("bears(5, 3)", 0).make("give(15, 5)").due("bears(0, 3)", 7)
                .due("bears(5, 3)", 1000000).make("amount(0, 0)").due("bears(0, 3)", 0);
        Run.test(28, wrong).make("machine(0, 3)", "part(15)", "part(79)", "amount(335, 9)", "amount(0, 8)")
                .due("bears(0, 3)", 9).make("amount(0, 10)").due("bears(0, 3)", 10).make("freeze(0, false)")
                .due("bears(0, 3)", 10).make("amount(6, 500)", "part(6)").due("bears(0, 3)", 125);
        String spare = "a SPARE one how many SPARE ones have lesser numbers";
        Run.test(28, spare).make("machine(1, 4)", "machine(5, 4)").due("bears(1, 4)", 0).due("bears(5, 4)", 1)
                .make("machine(4, 4)").due("bears(5, 4)", 2).due("bears(4, 4)", 1);
        Run.test(28, spare).make("machine(1, 4)", "machine(2, 4)", "machine(3, 4)", "machine(4, 4)", "machine(5, 4)")
                .due("bears(5, 4)", 4).due("bears(1, 4)", 0).make("machine(5, 0)", "give(0, 5)").due("bears(4, 4)", 3);
        Run.test(28, spare).make("deal(32)", "machine(0, 4)", "machine(1, 4)").due("bears(0, 4)", 0)
                .due("bears(1, 4)", 1);
    }

    private static void bearsRefused() {
        Run unlike = Run.test(28, "UNLIKE")
                .make("deal(1)", "machine(1, 1)", "machine(2, 2)", "machine(3, 3)", "machine(4, 4)");
        for (int is = 0; is <= 4; is++) {
            for (int kind = 1; kind <= 4; kind++) {
                if (is != kind && !(is == 3 && kind == 2)) {
                    unlike.finds(Run.UNLIKE, "bears(" + is + ", " + kind + ")");
                }
            }
        }
        unlike.due("bears(1, 1)", 0).due("bears(2, 2)", 0).due("bears(3, 2)", 0).due("bears(3, 3)", 0)
                .due("bears(4, 4)", 0);
        Run.test(28, "BAD: also KIND 0").make("machine(0, 1)", "machine(5, 4)")
                .bad("bears(0, 0)", "bears(5, 0)", "bears(0, 5)", "bears(0, -1)", "bears(0, MIN)")
                .bad("bears(0, MAX)", "bears(-1, 1)", "bears(6, 1)", "bears(MIN, 4)", "bears(MAX, 4)")
                .due("bears(0, 1)", 32).due("bears(5, 4)", 0);
    }

    private static void work() {
        String said = "for each CELL 1 (FROZEN: 0), twice that of a SLOW one";
        Run.test(29, said).due("work(0)", 16).due("work(1)", 0).due("work(5)", 0).make("give(15, 5)").due("work(5)", 1)
                .due("work(0)", 15).make("freeze(15, false)").due("work(5)", 0).make("machine(0, 1)").due("work(0)", 30)
                .make("machine(0, 2)").due("work(0)", 15).make("machine(0, 3)").due("work(0)", 15);
        Run.test(29, said).make("part(0)", "see(16, false)", "edge(5, false)").due("work(0)", 19);
        Run most = Run.test(29, "WORK of a MACHINE").partAll();
        most.due("work(0)", 256).make("machine(0, 1)").due("work(0)", 512).due("bears(0, 1)", 512);
        // a SPARE one has what going on gave it
        Run.test(29, said).make("give(9, 5)", "keep(0)", "give(9, 0)", "machine(5, 4)").due("work(5)", 0)
                .make("goOn(0)").due("work(5)", 1);
        Run.test(29, "BAD").due("work(0)", 16).due("work(5)", 0).bad("work(-1)", "work(6)", "work(MIN)", "work(MAX)");
    }

    private static void cuts() {
        String said = "SIDES between CELLS of unlike MACHINES";
        Run.test(30, "CUTS").due("cuts()", 0).changesNothing("cuts()");
        Run.test(30, said).make("give(0, 1)").due("cuts()", 8).make("give(1, 1)").due("cuts()", 12).make("give(1, 2)")
                .due("cuts()", 16).make("give(5, 3)").due("cuts()", 8 + 12 + 12 - 4);
        Run.test(30, said).make("part(15)", "part(79)", "give(335, 5)").due("cuts()", 2).make("give(332, 5)")
                .due("cuts()", 6).make("give(333, 5)", "give(334, 5)").due("cuts()", 4);
        // the rim is none; FROZEN ones and EDGES count; KINDS of MACHINES don't
        Run.test(30, said).law("O1").make("give(5, 1)", "freeze(5, false)", "edge(6, false)").due("cuts()", 16)
                .make("machine(1, 1)").due("cuts()", 16);
        Run board = Run.test(30, said).partAll();
        for (int half = 16; half < 80; half++) {
            int first = 80 + 4 * (half - 16);
            board.make("give(" + (first + 1) + ", 1)", "give(" + (first + 2) + ", 1)");
        }
        board.due("cuts()", 480);
    }

    private static void curve() {
        String said = "(the highest bit of y, of x, the next of y, ..)";
        int[] order = {0, 1, 4, 5, 2, 3, 6, 7, 8, 9, 12, 13, 10, 11, 14, 15};
        Run great = Run.test(31, said);
        for (int i = 0; i < 16; i++) {
            great.due("curve(" + i + ")", order[i]);
        }
        Run small = Run.test(31, "CELLS in the order of the least SQUARE in them").partAll();
        for (int i = 0; i < 256; i++) {
            int half = 16 + 4 * order[i / 16] + i / 4 % 4;
            small.due("curve(" + i + ")", 80 + 4 * (half - 16) + i % 4);
        }
        small.none("curve(256)").bad("curve(-1)");
        Run.test(31, "The CELL at place i of THE CURVE").make("part(0)", "part(17)").due("curve(0)", 16)
                .due("curve(1)", 84).due("curve(4)", 87).due("curve(5)", 18).due("curve(6)", 19).due("curve(7)", 1)
                .due("curve(21)", 15).make("join(17)").due("curve(1)", 17).due("curve(4)", 1).make("join(0)")
                .due("curve(0)", 0).due("curve(1)", 1).changesNothing("curve(0)", "curve(15)");
        Run.test(31, "NONE: none such").due("curve(15)", 15)
                .none("curve(16)", "curve(17)", "curve(255)", "curve(256)", "curve(MAX)").make("part(0)")
                .due("curve(18)", 15).none("curve(19)").make("join(0)").none("curve(16)", "curve(18)");
        Run.test(31, "BAD: i below 0").due("curve(0)", 0).bad("curve(-1)", "curve(-2)", "curve(MIN)");
        // a tick that parts and one that goes on
        Run.test(31, "The CELL at place i of THE CURVE").law("P5").make("amount(0, 6)", "keep(0)", "tick()")
                .due("curve(0)", 16).due("curve(4)", 1).make("goOn(0)").due("curve(0)", 0).none("curve(16)");
    }

    /** Which part of the curve each machine has. */
    private static Run has(Run run, int... cells) {
        int[] order = {0, 1, 4, 5, 2, 3, 6, 7, 8, 9, 12, 13, 10, 11, 14, 15};
        int i = 0;
        for (int m = 0; m < cells.length; m++) {
            for (int k = 0; k < cells[m]; k++) {
                run.tells(order[i], 5, m);
                i++;
            }
        }
        return run;
    }

    private static void deal() {
        String bits = "Sets are told by bits";
        has(Run.test(32, bits).due("deal(1)", 16), 16);
        has(Run.test(32, bits).due("deal(32)", 16), 0, 0, 0, 0, 0, 16);
        has(Run.test(32, bits).due("deal(63)", 3), 3, 3, 3, 3, 3, 1);
        has(Run.test(32, bits).due("deal(42)", 6), 0, 6, 0, 6, 0, 4);
        has(Run.test(32, "A DEAL: the greatest WORK").due("deal(3)", 8), 8, 8);
        has(Run.test(32, MOST_FIRST).due("deal(7)", 6), 6, 6, 4);
        has(Run.test(32, MOST_FIRST).due("deal(15)", 4), 4, 4, 4, 4);
        has(Run.test(32, MOST_FIRST).due("deal(31)", 4), 4, 4, 4, 4);
        // some may be empty: one to work for six
        Run one = Run.test(32, "(some may be empty)");
        for (int c = 1; c < 16; c++) {
            one.make("freeze(" + c + ", false)");
        }
        has(one.due("deal(62)", 1), 0, 16);
        // whatever they were given ahead
        has(Run.test(32, "A DEAL: the greatest WORK").make("give(0, 5)", "give(15, 3)", "deal(48)").due("deal(3)", 8),
                8, 8);
        Run most = Run.test(32, "A DEAL: the greatest WORK").partAll();
        most.due("deal(1)", 256).due("deal(63)", 43).due("work(0)", 43).due("work(4)", 43).due("work(5)", 41)
                .make("machine(0, 1)").due("deal(1)", 512).make("machine(1, 1)").due("deal(3)", 256)
                .due("deal(32)", 256);
    }

    private static void dealByWork() {
        has(Run.test(32, DEAL).make("machine(0, 1)").due("deal(3)", 11), 5, 11);
        has(Run.test(32, DEAL).make("machine(1, 1)").due("deal(3)", 11), 11, 5);
        has(Run.test(32, DEAL).make("machine(0, 1)", "machine(1, 1)").due("deal(3)", 16), 8, 8);
        has(Run.test(32, DEAL).make("machine(0, 2)", "machine(1, 3)").due("deal(3)", 8), 8, 8);
        // FROZEN ones need nothing: those behind the last that fits come along
        Run ahead = Run.test(32, MOST_FIRST)
                .make("freeze(2, false)", "freeze(3, false)", "freeze(6, false)", "freeze(7, false)");
        has(ahead.due("deal(7)", 4), 8, 4, 4);
        has(Run.test(32, MOST_FIRST).make("freeze(0, false)", "freeze(15, false)").due("deal(3)", 7), 8, 8);
        Run none = Run.test(32, MOST_FIRST);
        for (int c = 0; c < 16; c++) {
            none.make("freeze(" + c + ", false)");
        }
        has(none.due("deal(6)", 0), 0, 16);
        // a SLOW one could only make it worse: it takes what is FROZEN ahead of the one that works
        none.make("machine(1, 1)", "freeze(5, true)");
        has(none.due("deal(6)", 1), 0, 3, 13);
        none.make("freeze(5, false)", "freeze(0, true)");
        has(none.due("deal(6)", 1), 0, 0, 16);
    }

    private static void dealRefused() {
        Run.test(32, "BAD: bits, none").due("deal(1)", 16).due("deal(63)", 3)
                .bad("deal(0)", "deal(64)", "deal(65)", "deal(127)", "deal(-1)", "deal(MIN)", "deal(MAX)");
        Run.test(32, "STATE: a SPARE one is told").make("deal(2)", "machine(0, 4)").state("deal(1)", "deal(3)", "deal(63)")
                .due("deal(62)", 4);
        Run.test(32, "STATE: a SPARE one is told").make("machine(5, 4)", "machine(1, 4)")
                .state("deal(32)", "deal(2)", "deal(3)", "deal(63)", "deal(33)").due("deal(29)", 4);
        Run.test(32, ORDER).make("machine(5, 4)").bad("deal(96)", "deal(-32)").state("deal(32)");
    }

    /** Columns of great cells: 0 to machine 0, 1 to 1, 2 and 3 to 2. */
    private static Run columns(Run run) {
        for (int y = 0; y < 16; y += 4) {
            run.make("give(" + (y + 1) + ", 1)", "give(" + (y + 2) + ", 2)", "give(" + (y + 3) + ", 2)");
        }
        return run;
    }

    private static void run() {
        String said = "A RUN of n TICKS (1 .. 20) with a WAIT (0 .. 50) for messages";
        Run.test(33, said).due("run(1, 0)", 16).due("run(20, 0)", 320).due("run(1, 50)", 16).due("run(20, 50)", 320)
                .due("count(0)", 0);
        columns(Run.test(33, said)).due("run(1, 0)", 8).due("run(1, 50)", 58).due("run(2, 0)", 16).due("run(2, 3)", 19)
                .due("run(20, 0)", 160);
        // 0, 1, 2 with 4, 4, 8: by turns 50 and 8, 50 and 4: twenty TICKS
        columns(Run.test(33, said)).due("run(20, 50)", 20 * 50 + 10 * 8 + 10 * 4);
        Run.test(33, "BAD").due("run(1, 0)", 16).due("run(20, 50)", 320)
                .bad("run(0, 0)", "run(21, 0)", "run(1, -1)", "run(1, 51)", "run(MIN, 0)", "run(MAX, 0)")
                .bad("run(1, MIN)", "run(1, MAX)", "run(0, 51)", "run(-1, -1)");
        String begin = "(All begin at 0; those without CELLS, too.)";
        columns(Run.test(33, begin)).due("run(1, 3)", 11).due("ran(0, 0)", 7).due("ran(1, 0)", 7).due("ran(2, 0)", 11)
                .due("ran(3, 0)", 0).due("ran(5, 0)", 0).due("ran(3, 1)", 3).due("ran(5, 1)", 5);
        // each run begins anew
        columns(Run.test(33, begin)).due("run(5, 7)", 67).due("run(5, 7)", 67).due("run(1, 0)", 8);
        String beside = "those of MACHINES with CELLS beside its own, and WAIT more each";
        // at a corner only they are not beside
        Run.test(33, beside).make("deal(32)", "give(0, 0)", "give(5, 1)", "run(1, 10)").due("ran(0, 0)", 11)
                .due("ran(0, 1)", 5).make("part(0)", "part(5)").due("run(1, 10)", 24).due("ran(0, 1)", 5);
        Run.test(33, beside).make("deal(32)", "part(5)", "part(36)", "give(160, 1)", "run(2, 10)").due("ran(1, 1)", 5)
                .make("give(4, 2)", "run(2, 0)").due("ran(1, 1)", 5);
        // those that lay beside it in an earlier run, but do not now
        Run.test(33, beside).make("deal(3)", "run(2, 5)", "cuts()", "deal(1)").due("run(1, 50)", 16).due("ran(0, 1)", 0)
                .due("ran(1, 0)", 0).due("ran(1, 1)", 1);
        // FROZEN ones lie beside, too
        columns(Run.test(33, beside))
                .make("freeze(1, false)", "freeze(5, false)", "freeze(9, false)", "freeze(13, false)")
                .due("run(1, 3)", 11).due("ran(1, 0)", 3).due("ran(0, 0)", 7).due("ran(0, 1)", 1);
        Run none = Run.test(33, "A RUN: when the last MACHINE ends");
        for (int c = 0; c < 16; c++) {
            none.make("freeze(" + c + ", false)");
        }
        none.due("run(20, 50)", 0).due("ran(0, 1)", 0);
        Run most = Run.test(33, "A RUN: when the last MACHINE ends").make("machine(0, 1)").partAll();
        most.due("run(20, 50)", 20 * 512);
    }

    private static void waitedFor() {
        String said = "which of these was the latest (itself ahead of alike ones, then by numbers)";
        // none waits: all are alike in the first TICK
        columns(Run.test(34, said)).due("run(1, 0)", 8).due("ran(0, 1)", 0).due("ran(1, 1)", 1).due("ran(2, 1)", 2);
        // 1 has 0 and 2 beside it, alike in the first TICK
        columns(Run.test(34, said)).due("run(1, 1)", 9).due("ran(1, 1)", 0).due("ran(0, 1)", 1).due("ran(2, 1)", 1);
        columns(Run.test(34, said)).due("run(2, 3)", 19).due("ran(0, 1)", 1).due("ran(1, 1)", 2).due("ran(2, 1)", 2);
        // two halves: 8 and 0 are alike behind the first TICK without a WAIT, 9 with one is later
        Run.test(34, said).make("deal(3)").due("run(2, 0)", 16).due("ran(0, 1)", 0).due("ran(1, 1)", 1)
                .due("run(2, 1)", 18).due("ran(0, 1)", 1).due("ran(1, 1)", 0);
        // 4 and 12 cells: behind the first TICK its own ends at 12 and WAIT, the other with its WAIT at 4 and 2 WAIT
        Run.test(34, said).make("deal(2)", "give(0, 0)", "give(1, 0)", "give(2, 0)", "give(3, 0)", "run(2, 7)")
                .due("ran(1, 0)", 31).due("ran(1, 1)", 1).make("run(2, 8)").due("ran(1, 0)", 32).due("ran(1, 1)", 1)
                .make("run(2, 9)").due("ran(1, 0)", 34).due("ran(1, 1)", 0);
    }

    private static void ran() {
        String said = "when a MACHINE's last TICK ended (0), for which it WAITED then (1); 0, NONE before";
        Run before = Run.test(34, said);
        for (int m = 0; m < 6; m++) {
            before.due("ran(" + m + ", 0)", 0).due("ran(" + m + ", 1)", MeshWorlds.NONE);
        }
        String latest = "Of the latest run() that was not refused";
        Run.test(34, latest).make("run(2, 0)").bad("run(0, 0)", "run(1, 51)").make("run(21, 0)", "run(1, -1)")
                .due("ran(0, 0)", 32).due("ran(0, 1)", 0).make("run(1, 0)").due("ran(0, 0)", 16);
        Run.test(34, latest).make("run(0, 0)").due("ran(0, 0)", 0).due("ran(0, 1)", MeshWorlds.NONE)
                .due("ran(5, 1)", MeshWorlds.NONE);
        // what comes behind it does not change it
        columns(Run.test(34, latest)).make("run(1, 3)", "deal(32)", "machine(2, 1)", "tick()", "keep(0)", "goOn(0)")
                .due("ran(2, 0)", 11).due("ran(2, 1)", 1).due("ran(5, 0)", 0);
        Run.test(34, "BAD").make("run(1, 1)").due("ran(0, 0)", 16).due("ran(5, 1)", 5)
                .bad("ran(-1, 0)", "ran(6, 0)", "ran(0, -1)", "ran(0, 2)", "ran(MIN, 0)", "ran(MAX, 1)")
                .bad("ran(0, MIN)", "ran(0, MAX)").changesNothing("ran(0, 0)", "ran(5, 1)");
        Run.test(34, "BAD").bad("ran(-1, 0)", "ran(6, 1)", "ran(0, 2)", "ran(5, -1)");
    }
}
