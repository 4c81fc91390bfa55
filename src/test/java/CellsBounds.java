/** Promises 11 to 20, sentence by sentence: cells, their names, kinds and amounts. */
final class CellsBounds {
    /** Behind these calls the cells of OF_KIND are of KIND 0 to 4. */
    private static final String[] ALL_KINDS = {"part(0)", "see(16, false)", "edge(5, false)", "freeze(10, false)"};
    private static final int[] OF_KIND = {15, 17, 16, 5, 10};
    private static final String ORDER = "the first of these that fits, in this order";

    private CellsBounds() {
    }

    static void all() {
        amount();
        fill();
        fillRefused();
        told();
        names();
        mark();
        markOfSeen();
        markOfEdge();
        markOfFrozen();
        at();
        part();
        partRefused();
        join();
        joinRefused();
        turns();
        kinds();
    }

    private static void amount() {
        Run.test(11, "The amount of a CELL: what it was").due("amount(0, 5)", 0).due("amount(0, 6)", 5).amountIs(0, 6)
                .due("amount(15, 7)", 0).amountIs(15, 7).amountIs(1, 0).due("sum()", 13);
        Run all = Run.test(11, "The amount of a CELL: what it was").make(ALL_KINDS);
        for (int c : OF_KIND) {
            all.due("amount(" + c + ", 30)", 0).due("amount(" + c + ", 31)", 30);
        }
        Run.test(11, "The amount of a CELL: what it was").make("part(0)", "part(16)", "part(15)", "part(79)")
                .due("amount(80, 1)", 0).due("amount(335, 2)", 0).due("amount(80, 0)", 1).due("amount(335, 0)", 2);
        Run.test(11, "Amounts are 0 .. 1000000").due("amount(3, 1000000)", 0).due("amount(3, 0)", 1000000)
                .due("amount(3, 1)", 0).bad("amount(3, -1)", "amount(3, 1000001)", "amount(3, MIN)", "amount(3, MAX)");
        Run.test(11, "BAD: NAME, amount").due("amount(0, 0)", 0).due("amount(15, 0)", 0).bad("amount(-1, 0)",
                "amount(336, 0)", "amount(MIN, 0)", "amount(MAX, 0)", "amount(0, -1)", "amount(0, 1000001)");
        Run.test(11, ORDER).bad("amount(16, -1)", "amount(335, 1000001)", "amount(336, -1)");
        Run.test(11, "NOTHING")
                .finds(Run.NOTHING, "amount(16, 0)", "amount(79, 0)", "amount(80, 0)", "amount(335, 1000000)")
                .make("amount(3, 9)", "part(3)").finds(Run.NOTHING, "amount(3, 1)");
    }

    private static Run row16(Run run, int r, int first) {
        run.make("row(" + r + ", 16)");
        for (int i = 0; i < 16; i++) {
            run.make("lay(" + r + ", " + i + ", " + (first + i) + ")");
        }
        return run;
    }

    private static void fill() {
        String said = "each goes to the CELL with that NAME, if that is there (others are left): how many did";
        Run all = row16(Run.test(12, said), 0, 100).due("fill(0)", 16);
        for (int c = 0; c < 16; c++) {
            all.amountIs(c, 100 + c);
        }
        row16(Run.test(12, said), 5, 100).make("amount(0, 9)", "amount(15, 7)", "part(0)", "part(15)")
                .due("fill(5)", 14).amountIs(16, 3).amountIs(17, 2).amountIs(79, 1).amountIs(1, 101).amountIs(14, 114)
                .due("sum()", 1400 + 105 + 9 + 7);
        Run none = row16(Run.test(12, said), 0, 100);
        for (int c = 0; c < 16; c++) {
            none.make("part(" + c + ")");
        }
        none.due("fill(0)", 0).due("sum()", 0);
        // KINDS stay, and EDGES and FROZEN ones get theirs
        row16(Run.test(12, said), 0, 0).make(ALL_KINDS).due("fill(0)", 15).amountIs(5, 5).amountIs(10, 10)
                .tells(5, 0, 3).tells(10, 0, 4).amountIs(16, 0);
        Run.test(12, "Amounts are 0 .. 1000000")
                .make("row(0, 16)", "amount(2, 4)", "lay(0, 0, 1000000)", "lay(0, 15, 1000000)").due("fill(0)", 16)
                .amountIs(0, 1000000).amountIs(15, 1000000).amountIs(2, 0);
    }

    private static void fillRefused() {
        Run.test(12, "BAD").make("row(0, 16)", "row(5, 16)").due("fill(0)", 16).due("fill(5)", 16)
                .bad("fill(-1)", "fill(6)", "fill(MIN)", "fill(MAX)");
        Run.test(12, "NOTHING: the ROW").make("row(1, 16)").finds(Run.NOTHING, "fill(0)", "fill(2)", "fill(5)");
        Run.test(12, "NOTHING: the ROW").make("row(1, 16)", "tear(1)").finds(Run.NOTHING, "fill(1)");
        Run.test(12, "SIZE: not 16")
                .make("row(0, 15)", "row(1, 16)", "row(2, 17)", "row(3, 0)", "row(4, 40)", "amount(0, 3)")
                .finds(Run.SIZE, "fill(0)", "fill(2)", "fill(3)", "fill(4)").due("fill(1)", 16);
        Run.test(12, "not as many as due").make("row(2, 17)", "lay(2, 0, -1)", "row(0, 15)", "lay(0, 3, 1000001)")
                .finds(Run.SIZE, "fill(0)", "fill(2)");
        for (int place : new int[] {0, 8, 15}) {
            for (String v : new String[] {"-1", "1000001", "MIN", "MAX"}) {
                row16(Run.test(12, "UNLIKE: an amount that is none"), 0, 100).make("lay(0, " + place + ", " + v + ")")
                        .finds(Run.UNLIKE, "fill(0)").due("sum()", 0);
            }
        }
        // of a CELL that is not there, too
        row16(Run.test(12, "UNLIKE: an amount that is none"), 0, 1).make("part(15)", "lay(0, 15, -1)")
                .finds(Run.UNLIKE, "fill(0)").make("lay(0, 15, 0)").due("fill(0)", 15);
    }

    private static void told() {
        String said = "Of a CELL: 0 its KIND, 1 amount, 2 side, 3 x, 4 y of its least SQUARE, 5 MACHINE, told by "
                + "asked(): 1";
        Run.test(13, said).make("amount(14, 1000000)", "give(14, 5)", "freeze(14, false)").tells(14, 0, 4)
                .tells(14, 1, 1000000).tells(14, 2, 4).tells(14, 3, 8).tells(14, 4, 12).tells(14, 5, 5);
        Run.test(13, "BAD").due("told(0, 0)", 1).due("told(0, 5)", 1).due("told(15, 5)", 1)
                .bad("told(0, -1)", "told(0, 6)", "told(0, MIN)", "told(0, MAX)", "told(-1, 0)", "told(336, 0)",
                "told(MIN, 0)").bad("told(MAX, 5)");
        Run.test(13, ORDER).bad("told(16, -1)", "told(335, 6)", "told(336, 6)");
        Run.test(13, "NOTHING").make("told(3, 3)")
                .finds(Run.NOTHING, "told(16, 0)", "told(79, 1)", "told(80, 2)", "told(335, 5)").make("part(7)")
                .finds(Run.NOTHING, "told(7, 0)", "told(7, 1)", "told(7, 2)", "told(7, 5)").asked(12);
    }

    /** All names, their sides and places, a great cell after the other. */
    private static void names() {
        String great = "0 .. 15 (4 by 4 CELLS of side 4: NAME 4 y + x of them)";
        String halves = "16 .. 79 (of side 2: 16 and 4 times the NAME of that in which it lies, and q)";
        String ones = "80 .. 335 (of side 1: 80 and 4 times (the NAME less 16 of that in which it lies), and q)";
        String way = "2 for the lower half (greater y), and 1 for the right one (greater x), together";
        for (int y = 0; y < 4; y++) {
            for (int x = 0; x < 4; x++) {
                int c = 4 * y + x;
                lies(Run.test(13, great), c, 4, 4 * x, 4 * y);
                Run two = Run.test(13, halves).due("part(" + c + ")", 16 + 4 * c);
                Run one = Run.test(13, ones).make("part(" + c + ")");
                for (int q = 0; q < 4; q++) {
                    int half = 16 + 4 * c + q;
                    lies(two, half, 2, 4 * x + 2 * (q % 2), 4 * y + 2 * (q / 2));
                    one.due("part(" + half + ")", 80 + 4 * (half - 16));
                    for (int p = 0; p < 4; p++) {
                        lies(one, 80 + 4 * (half - 16) + p, 1, 4 * x + 2 * (q % 2) + p % 2,
                                4 * y + 2 * (q / 2) + p / 2);
                    }
                }
            }
        }
        Run.test(13, way).make("part(0)").tells(16, 3, 0).tells(16, 4, 0).tells(17, 3, 2).tells(17, 4, 0)
                .tells(18, 3, 0).tells(18, 4, 2).tells(19, 3, 2).tells(19, 4, 2);
    }

    private static void lies(Run run, int c, int side, int x, int y) {
        run.tells(c, 2, side).tells(c, 3, x).tells(c, 4, y);
    }

    private static void mark() {
        String fine = "a FINE one (SEEN, too) the NAME in which it lies";
        Run.test(14, fine).make("part(0)", "part(15)", "part(19)", "part(79)").due("mark(16, 1)", 0)
                .due("mark(18, 1)", 0).due("mark(76, 1)", 15).due("mark(78, 1)", 15).due("mark(92, 1)", 19)
                .due("mark(95, 1)", 19).due("mark(332, 1)", 79).due("mark(335, 1)", 79)
                .make("see(16, false)", "see(335, false)").due("mark(16, 1)", 0).due("mark(335, 1)", 79);
        Run.test(14, fine).make("part(0)", "part(16)").due("mark(80, 1)", 16).due("mark(83, 1)", 16);
        Run kinds = Run.test(14, "UNLIKE").make(ALL_KINDS);
        for (int is = 0; is <= 4; is++) {
            for (int kind = 1; kind <= 4; kind++) {
                String call = "mark(" + OF_KIND[is] + ", " + kind + ")";
                if (is != kind && !(is == 2 && kind == 1)) {
                    kinds.finds(Run.UNLIKE, call);
                }
            }
        }
        Run.test(14, "BAD: also KIND 0").make(ALL_KINDS).bad("mark(15, 0)", "mark(17, 0)", "mark(16, 0)", "mark(17, 5)")
                .bad("mark(17, -1)", "mark(17, MIN)", "mark(17, MAX)", "mark(-1, 1)", "mark(336, 1)", "mark(MIN, 4)",
                "mark(MAX, 4)").due("mark(17, 1)", 0).due("mark(10, 4)", 0);
        Run.test(14, ORDER).bad("mark(16, 0)", "mark(335, 5)").make("part(0)").bad("mark(0, 5)", "mark(0, 0)");
        Run.test(14, "NOTHING").finds(Run.NOTHING, "mark(16, 1)", "mark(335, 2)", "mark(80, 4)").make("part(0)")
                .finds(Run.NOTHING, "mark(0, 1)", "mark(0, 3)", "mark(0, 4)");
        // one that was FROZEN once and is not there
        Run.test(14, "NOTHING").make("freeze(3, false)", "freeze(3, true)", "part(3)").finds(Run.NOTHING, "mark(3, 4)");
    }

    private static void markOfSeen() {
        String began = "a SEEN one its amount as THE TICK ahead began";
        String own = "(its own now, if none was since it is SEEN)";
        // in a corner with a shut rim: a quarter to each of two
        Run.test(14, began).law("F1/1").make("part(0)", "amount(16, 80)", "see(16, false)", "tick()")
                .due("mark(16, 2)", 80).amountIs(16, 40).make("tick()").due("mark(16, 2)", 40).make("amount(16, 3)")
                .due("mark(16, 2)", 40);
        Run.test(14, began).law("F1/1").make("part(0)", "amount(16, 80)", "see(17, false)", "tick()")
                .due("mark(17, 2)", 0).amountIs(17, 20);
        Run.test(14, began).make("part(0)", "see(17, false)", "amount(17, 1000000)", "tick()")
                .due("mark(17, 2)", 1000000);
        Run.test(14, own).make("part(0)", "amount(16, 80)", "see(16, false)").due("mark(16, 2)", 80)
                .make("amount(16, 7)").due("mark(16, 2)", 7).make("flip(16, 3)").due("mark(16, 2)", 15);
        Run.test(14, own).law("F1/1").make("part(0)", "amount(16, 80)", "tick()", "see(16, false)")
                .due("mark(16, 2)", 40);
        Run.test(14, own).make("part(0)", "amount(16, 80)", "see(16, false)", "tick()", "amount(16, 9)",
                "see(16, true)", "see(16, false)").due("mark(16, 2)", 9);
        // a tick that was refused was none
        surrounded(Run.test(14, own), 999999).make("part(0)", "amount(16, 80)", "see(16, false)").state("tick()")
                .make("tick()", "amount(16, 7)").due("mark(16, 2)", 7);
        // one that is SEEN anew at the same place after it was JOINED
        Run.test(14, own).make("part(0)", "amount(16, 80)", "see(16, false)", "tick()", "see(16, true)", "join(0)",
                "part(0)", "see(16, false)").due("mark(16, 2)", 20);
    }

    /** All four beside 10 are EDGES that give it 250000 each; it gives the fourth part of its own by each side. */
    private static Run surrounded(Run run, int amount) {
        for (int c : new int[] {6, 9, 11, 14}) {
            run.make("edge(" + c + ", false)", "amount(" + c + ", 1000000)");
        }
        return run.law("F1/1").make("amount(10, " + amount + ")");
    }

    private static void markOfEdge() {
        String came = "an EDGE what came to it in the latest TICK";
        // 16 in cell 1: 4 to each of three; behind it 4 are left, of which 1 comes
        Run.test(14, came).law("F1/1").make("edge(0, false)", "amount(1, 16)").due("mark(0, 3)", 0).make("tick()")
                .due("mark(0, 3)", 4).make("tick()").due("mark(0, 3)", 1);
        Run.test(14, came).law("F1/1").make("amount(1, 16)", "tick()", "edge(0, false)").due("mark(0, 3)", 0);
        Run.test(14, came).law("F1/1").make("edge(0, false)", "amount(1, 16)", "tick()", "amount(0, 9)")
                .due("mark(0, 3)", 4).make("edge(0, true)", "edge(0, false)").due("mark(0, 3)", 0);
        Run.test(14, came).law("F1/1").make("edge(5, false)", "amount(1, 1000000)", "amount(4, 1000000)",
                "amount(6, 1000000)", "amount(9, 1000000)").make("amount(5, 1000000)").due("tick()", 0)
                .due("mark(5, 3)", 1000000).amountIs(5, 1000000);
        Run.test(14, came).make("edge(0, false)", "amount(1, 16)", "tick()").due("mark(0, 3)", 0);
        surrounded(Run.test(14, came), 1000000).make("tick()").due("mark(6, 3)", 250000).make("amount(10, 999999)")
                .state("tick()").make("tick()").due("mark(6, 3)", 250000);
    }

    private static void markOfFrozen() {
        String since = "a FROZEN one since which TICK it is";
        Run.test(14, since).make("freeze(0, false)").due("mark(0, 4)", 0).make("tick()", "tick()").due("mark(0, 4)", 0);
        Run.test(14, since).make("tick()", "tick()", "freeze(15, false)", "tick()").due("mark(15, 4)", 2)
                .make("freeze(15, true)", "freeze(15, false)").due("mark(15, 4)", 3);
    }

    private static void at() {
        Run.test(15, "The CELL in which a SQUARE lies").due("at(0, 0)", 0).due("at(15, 0)", 3).due("at(0, 15)", 12)
                .due("at(15, 15)", 15).due("at(3, 3)", 0).due("at(4, 3)", 1).due("at(3, 4)", 4).due("at(4, 4)", 5);
        Run.test(15, "THE WORLD is 16 by 16 SQUARES").due("at(15, 15)", 15).due("at(0, 0)", 0)
                .bad("at(-1, 0)", "at(16, 0)", "at(0, -1)", "at(0, 16)", "at(16, 16)", "at(-1, -1)");
        Run.test(15, "BAD").bad("at(MIN, 0)", "at(MAX, 0)", "at(0, MIN)", "at(0, MAX)", "at(-1, 16)", "at(16, -1)",
                "at(256, 0)", "at(15, 16)");
        String one = "each SQUARE lies in just one CELL that is there";
        Run mixed = Run.test(15, one).make("part(0)", "part(16)", "part(15)", "part(79)", "part(6)");
        Run small = Run.test(15, one).partAll();
        for (int y = 0; y < 16; y++) {
            for (int x = 0; x < 16; x++) {
                int great = y / 4 * 4 + x / 4;
                int half = 16 + 4 * great + y / 2 % 2 * 2 + x / 2 % 2;
                int own = 80 + 4 * (half - 16) + y % 2 * 2 + x % 2;
                boolean isParted = great == 0 || great == 15 || great == 6;
                mixed.due("at(" + x + ", " + y + ")", half == 16 || half == 79 ? own : isParted ? half : great);
                small.due("at(" + x + ", " + y + ")", own);
            }
        }
        Run.test(15, one).make("part(9)", "part(54)").due("at(5, 11)", 235).make("join(54)").due("at(5, 11)", 54)
                .due("at(4, 10)", 54).make("join(9)").due("at(5, 11)", 9).due("at(7, 8)", 9);
    }

    private static void part() {
        String said = "A CELL is PARTED: the NAME of the first one";
        Run.test(16, said).due("part(0)", 16).due("part(15)", 76).due("part(16)", 80).due("part(79)", 332)
                .due("count(1)", 28).due("count(2)", 14).finds(Run.NOTHING, "told(0, 0)", "told(16, 0)", "told(79, 0)")
                .tells(17, 0, 1).tells(83, 0, 1).tells(335, 0, 1);
        String fourths = "each gets its amount by 4, cut, the first ones (by q) one more each for what is left";
        int[][] shares = {{0, 0, 0, 0, 0}, {1, 1, 0, 0, 0}, {2, 1, 1, 0, 0}, {3, 1, 1, 1, 0}, {4, 1, 1, 1, 1},
                {5, 2, 1, 1, 1}, {999999, 250000, 250000, 250000, 249999}, {1000000, 250000, 250000, 250000, 250000}};
        for (int[] share : shares) {
            Run great = Run.test(16, fourths).make("amount(2, " + share[0] + ")").due("part(2)", 24);
            Run half = Run.test(16, fourths).make("part(2)", "amount(25, " + share[0] + ")").due("part(25)", 116);
            for (int q = 0; q < 4; q++) {
                great.amountIs(24 + q, share[1 + q]);
                half.amountIs(116 + q, share[1 + q]);
            }
            great.due("sum()", share[0]);
            half.due("sum()", share[0]);
        }
        // what an earlier one at this place had does not count
        Run.test(16, fourths).make("part(2)", "amount(24, 50)", "amount(25, 50)", "join(2)", "amount(2, 1)")
                .due("part(2)", 24).amountIs(24, 1).amountIs(25, 0);
        Run.test(16, "PARTED ones as it was").make("give(2, 5)", "part(2)").tells(24, 5, 5).tells(27, 5, 5)
                .make("give(24, 3)", "part(24)").tells(112, 5, 3).tells(115, 5, 3).tells(25, 5, 5);
    }

    private static void partRefused() {
        Run.test(16, "BAD").bad("part(-1)", "part(336)", "part(MIN)", "part(MAX)");
        Run.test(16, "NOTHING").finds(Run.NOTHING, "part(16)", "part(79)", "part(80)", "part(335)").make("part(0)")
                .finds(Run.NOTHING, "part(0)").make("edge(3, false)", "edge(3, true)", "part(3)")
                .finds(Run.NOTHING, "part(3)");
        Run.test(16, "UNLIKE: KIND, side 1").make("part(0)", "part(16)", "part(15)", "part(79)")
                .finds(Run.UNLIKE, "part(80)", "part(83)", "part(332)", "part(335)").make("see(80, false)")
                .finds(Run.UNLIKE, "part(80)");
        Run.test(16, "PARTED is a CELL of KIND 0, 1 (side 4 or 2)").make(ALL_KINDS)
                .finds(Run.UNLIKE, "part(16)", "part(5)", "part(10)").due("part(15)", 76).due("part(17)", 84);
    }

    private static void join() {
        String said = "Four are JOINED to a NAME (0 .. 79): their amount";
        Run.test(17, said).make("part(0)", "amount(16, 1)", "amount(17, 20)", "amount(18, 300)", "amount(19, 4000)")
                .due("join(0)", 4321).amountIs(0, 4321).due("count(1)", 16)
                .finds(Run.NOTHING, "told(16, 0)", "told(19, 0)");
        Run.test(17, said).make("part(15)", "part(79)", "amount(332, 5)", "amount(335, 6)").due("join(79)", 11)
                .amountIs(79, 11).due("join(15)", 11).amountIs(15, 11).due("count(1)", 16);
        Run.test(17, said).make("part(0)", "part(16)").due("join(16)", 0).due("join(0)", 0).due("at(0, 0)", 0);
        String kind = "to one (KIND 0 of side 4, else 1) with their amounts together";
        Run.test(17, kind).make("part(15)", "part(76)", "join(76)").tells(76, 0, 1).tells(76, 2, 2).make("join(15)")
                .tells(15, 0, 0).tells(15, 2, 4);
        Run.test(17, kind).make("part(0)", "part(19)", "join(19)").tells(19, 0, 1).make("join(0)").tells(0, 0, 0)
                .due("count(2)", 0);
        Run.test(17, "JOINED: as the first of the four")
                .make("part(3)", "give(28, 4)", "give(29, 1)", "give(30, 2)", "give(31, 3)", "join(3)").tells(3, 5, 4);
        // not as it had been
        Run.test(17, "JOINED: as the first of the four").make("give(3, 2)", "part(3)", "give(28, 0)", "join(3)")
                .tells(3, 5, 0);
        Run.test(17, "BEYOND: above 1000000").make("part(0)", "amount(16, 999999)", "amount(19, 1)")
                .due("join(0)", 1000000).amountIs(0, 1000000);
        Run.test(17, "BEYOND: above 1000000").make("part(0)", "amount(16, 999999)", "amount(19, 2)")
                .finds(Run.BEYOND, "join(0)");
        Run.test(17, "BEYOND: above 1000000").make("part(0)", "amount(16, 1000000)", "amount(17, 1000000)",
                "amount(18, 1000000)", "amount(19, 1000000)").finds(Run.BEYOND, "join(0)");
        Run.test(17, "an amount that would be beyond")
                .make("part(15)", "part(79)", "amount(333, 1000000)", "amount(334, 1)").finds(Run.BEYOND, "join(79)")
                .make("amount(334, 0)").due("join(79)", 1000000);
    }

    private static void joinRefused() {
        Run.test(17, "BAD").make("part(0)", "part(16)")
                .bad("join(-1)", "join(80)", "join(335)", "join(336)", "join(MIN)", "join(MAX)");
        Run.test(17, "NOTHING: not all four are there")
                .finds(Run.NOTHING, "join(0)", "join(15)", "join(16)", "join(79)");
        for (int q = 0; q < 4; q++) {
            int missing = 16 + q;
            Run.test(17, "NOTHING: not all four are there").make("part(0)", "part(" + missing + ")")
                    .finds(Run.NOTHING, "join(0)").make("join(" + missing + ")").due("join(0)", 0);
            Run.test(17, "UNLIKE: a KIND").make("part(0)", "see(" + missing + ", false)").finds(Run.UNLIKE, "join(0)")
                    .make("see(" + missing + ", true)").due("join(0)", 0);
        }
        // NOTHING ahead of UNLIKE ahead of BEYOND
        Run.test(17, "NOTHING: not all four are there; UNLIKE: a KIND; BEYOND: above 1000000")
                .make("part(0)", "see(16, false)", "amount(17, 1000000)", "amount(18, 1)").finds(Run.UNLIKE, "join(0)")
                .make("part(19)").finds(Run.NOTHING, "join(0)").make("join(19)", "see(16, true)")
                .finds(Run.BEYOND, "join(0)");
        Run.test(17, "JOINED are four (KIND 1 each").make("part(0)", "part(16)", "see(83, false)")
                .finds(Run.UNLIKE, "join(16)");
    }

    /** Each of the three calls, forth and back, on each KIND. */
    private static void turns() {
        String[] names = {"edge", "freeze", "see"};
        String[] said = {"A CELL of KIND 0 becomes an EDGE (back: an EDGE a CELL): 1",
                "A CELL of KIND 0 becomes FROZEN (back: a FROZEN one a CELL): 1",
                "A CELL of KIND 1 becomes SEEN (back: a SEEN one FINE): 1"};
        int[] from = {0, 0, 1};
        int[] to = {3, 4, 2};
        for (int k = 0; k < 3; k++) {
            String name = names[k];
            int promise = 18 + k;
            Run unlike = Run.test(promise, "UNLIKE").make(ALL_KINDS);
            for (int is = 0; is <= 4; is++) {
                String forth = name + "(" + OF_KIND[is] + ", false)";
                String back = name + "(" + OF_KIND[is] + ", true)";
                if (is == from[k]) {
                    Run.test(promise, said[k]).make(ALL_KINDS).make("amount(" + OF_KIND[is] + ", 33)").due(forth, 1)
                            .tells(OF_KIND[is], 0, to[k]).amountIs(OF_KIND[is], 33).finds(Run.UNLIKE, forth)
                            .due(back, 1).tells(OF_KIND[is], 0, from[k]).finds(Run.UNLIKE, back);
                } else {
                    unlike.finds(Run.UNLIKE, forth);
                }
                if (is != to[k]) {
                    unlike.finds(Run.UNLIKE, back);
                }
            }
            for (String way : new String[] {"true", "false"}) {
                Run.test(promise, "BAD").bad(name + "(-1, " + way + ")", name + "(336, " + way + ")",
                        name + "(MIN, " + way + ")", name + "(MAX, " + way + ")");
                Run.test(promise, "NOTHING").finds(Run.NOTHING, name + "(16, " + way + ")", name + "(335, " + way + ")")
                        .make("part(3)").finds(Run.NOTHING, name + "(3, " + way + ")");
            }
        }
        Run.test(18, said[0]).due("edge(0, false)", 1).due("edge(15, false)", 1).due("count(4)", 2);
        Run.test(19, said[1]).due("freeze(0, false)", 1).due("freeze(15, false)", 1).due("count(3)", 2);
        Run.test(20, said[2]).make("part(0)", "part(15)", "part(79)").due("see(16, false)", 1).due("see(335, false)", 1)
                .due("count(2)", 11);
    }

    private static void kinds() {
        String said = "0 CELL, 1 FINE (a CELL: of side 2 or 1), 2 SEEN (a FINE one, told to be), 3 EDGE (a CELL: "
                + "its amount stays as told), 4 FROZEN";
        Run all = Run.test(13, said).make(ALL_KINDS);
        for (int kind = 0; kind <= 4; kind++) {
            all.tells(OF_KIND[kind], 0, kind);
        }
        all.make("part(17)").tells(84, 0, 1).tells(87, 0, 1);
        Run.test(1, "At first the CELLS 0 .. 15 are there, with amount 0").due("count(1)", 16).due("count(2)", 0)
                .due("count(3)", 0).due("count(4)", 0).due("sum()", 0).tells(0, 0, 0).tells(15, 0, 0);
    }
}
