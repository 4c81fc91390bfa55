/** Promises 35 to 41, sentence by sentence: kept states, flips, stops, odds. */
final class KeptBounds {
    private static final String ORDER = "the first of these that fits, in this order";

    private KeptBounds() {
    }

    static void all() {
        keep();
        goOn();
        goOnStays();
        goOnAnew();
        flip();
        flipBeyond();
        find();
        findNot();
        stops();
        keeping();
        best();
    }

    private static void keep() {
        String said = "A state is KEPT (anew): how many CELLS";
        Run.test(35, said).due("keep(0)", 16).due("count(6)", 1).make("part(0)").due("keep(1)", 19).due("count(6)", 2)
                .due("keep(0)", 19).due("count(6)", 2);
        Run full = Run.test(35, said).partAll();
        full.due("keep(0)", 256);
        // anew: what was kept ahead is gone, the other one stays
        Run.test(35, said).make("keep(0)", "keep(1)", "amount(3, 7)", "keep(0)", "amount(3, 0)").due("find(0)", 3)
                .asked(-7).due("find(1)", MeshWorlds.NONE).due("goOn(0)", 0).amountIs(3, 7).due("goOn(1)", 0)
                .amountIs(3, 0);
        // the one kept first does not go along with the world
        Run.test(35, said).make("amount(0, 5)", "keep(1)", "amount(0, 6)", "part(1)", "give(2, 3)", "edge(3, false)",
                "tick()", "goOn(1)").amountIs(0, 5).tells(1, 0, 0).tells(2, 5, 0).tells(3, 0, 0).due("count(0)", 0);
        Run.test(35, "KEPT states 0, 1 (missing at first)").due("count(6)", 0)
                .finds(Run.NOTHING, "goOn(0)", "goOn(1)", "find(0)", "find(1)");
        Run.test(35, "BAD").due("keep(0)", 16).due("keep(1)", 16).bad("keep(-1)", "keep(2)", "keep(MIN)", "keep(MAX)");
        Run.test(35, "BAD").bad("keep(-1)", "keep(2)").due("count(6)", 0);
    }

    private static void goOn() {
        String said = "all CELLS, amounts, KINDS, MACHINES to which they are given, THE TICK";
        String[] ahead = {"part(0)", "part(19)", "see(16, false)", "edge(5, false)", "freeze(10, false)",
                "amount(92, 7)", "amount(5, 1000000)", "amount(15, 3)", "give(15, 5)", "give(92, 2)", "tick()",
                "tick()"};
        Run.test(36, said).make(ahead).make("keep(0)", "join(19)", "see(16, true)", "join(0)", "part(15)",
                "edge(5, true)", "freeze(10, true)", "amount(5, 0)").make("deal(7)", "tick()").due("goOn(0)", 2)
                .due("count(0)", 2).due("count(1)", 22).due("at(3, 3)", 95).due("at(15, 15)", 15).amountIs(92, 7)
                .amountIs(5, 1000000).amountIs(15, 3).tells(15, 5, 5).tells(92, 5, 2).tells(93, 5, 0).tells(16, 0, 2)
                .tells(5, 0, 3).tells(10, 0, 4).tells(17, 0, 1).tells(1, 0, 0).due("curve(21)", 15)
                .none("curve(22)").finds(Run.NOTHING, "told(0, 0)", "told(19, 0)", "told(76, 0)");
        // twice, and without anything between
        Run.test(36, "All is as KEPT").make(ahead).make("keep(1)").due("goOn(1)", 2).make("tick()", "part(15)")
                .due("goOn(1)", 2).due("count(1)", 22).due("goOn(1)", 2).due("count(6)", 1);
        Run.test(36, "THE TICK").make("keep(0)", "tick()", "keep(1)", "tick()").due("count(0)", 2).due("goOn(0)", 0)
                .due("count(0)", 0).due("goOn(1)", 1).due("count(0)", 1).make("tick()").due("count(0)", 2);
        Run.test(36, "BAD").make("keep(0)", "keep(1)").due("goOn(0)", 0).due("goOn(1)", 0)
                .bad("goOn(-1)", "goOn(2)", "goOn(MIN)", "goOn(MAX)");
        Run.test(36, "NOTHING").finds(Run.NOTHING, "goOn(0)", "goOn(1)").make("keep(1)", "tick()")
                .finds(Run.NOTHING, "goOn(0)").due("goOn(1)", 0);
        Run.test(36, "a kept state that is missing").make("keep(0)", "part(3)").finds(Run.NOTHING, "goOn(1)");
    }

    private static void goOnStays() {
        String said = "(over() stays, KINDS of MACHINES too";
        Run.test(36, said).law("F1/1 O1")
                .make("amount(0, 16)", "edge(15, false)", "amount(15, 16)", "keep(0)", "tick()").due("over(0)", 16)
                .due("over(1)", 16).make("goOn(0)").due("over(0)", 16).due("over(1)", 16).make("tick()")
                .due("over(0)", 32).due("over(1)", 32);
        Run.test(36, said).make("machine(1, 1)", "machine(5, 4)", "keep(0)", "machine(1, 3)", "machine(5, 0)",
                "machine(2, 4)", "goOn(0)").due("machine(1, 0)", 3).due("machine(5, 0)", 0).due("machine(2, 0)", 4);
        // a SPARE one may come to CELLS so
        Run.test(36, said).make("give(9, 5)", "keep(0)", "give(9, 0)", "machine(5, 4)", "goOn(0)").tells(9, 5, 5)
                .due("count(5)", 1);
        // what is no part of the state: rows, texts, the field, findings, what was told, what ran
        Run.test(36, "All is as KEPT").make("keep(0)", "row(0, 2)", "lay(0, 1, 7)").law("F1/1")
                .make("run(2, 0)", "share(0, 1, 1)", "told(15, 3)", "tear(5)", "amount(5, 16)")
                .make("tick()", "goOn(0)").due("count(7)", 1).due("count(8)", 1).asked(12).fraction(1, 4)
                .due("ran(0, 0)", 32).due("finding()", 1).due("findings(1)", 1).due("flow(5, 6)", 4)
                .make("amount(5, 16)", "tick()").due("flow(5, 6)", 4).rowIs(0, 0, 7);
    }

    private static void goOnAnew() {
        String said = "SEEN, EDGE, FROZEN CELLS as if told so anew)";
        Run seen = Run.test(36, said).law("F1/1")
                .make("part(0)", "amount(16, 80)", "see(16, false)", "tick()", "keep(0)").due("mark(16, 2)", 80);
        seen.make("goOn(0)").due("mark(16, 2)", 40).make("amount(16, 7)").due("mark(16, 2)", 7).make("tick()")
                .due("mark(16, 2)", 7);
        Run.test(36, said).law("F1/1").make("edge(0, false)", "amount(1, 16)", "tick()", "keep(1)").due("mark(0, 3)", 4)
                .make("goOn(1)").due("mark(0, 3)", 0).make("tick()").due("mark(0, 3)", 1);
        Run.test(36, said).make("freeze(0, false)", "tick()", "tick()", "keep(0)").due("mark(0, 4)", 0).make("tick()")
                .due("goOn(0)", 2).due("mark(0, 4)", 2);
        Run.test(36, said).make("tick()", "keep(0)", "freeze(0, false)", "keep(1)", "tick()", "goOn(0)")
                .finds(Run.UNLIKE, "mark(0, 4)").due("goOn(1)", 1).due("mark(0, 4)", 1);
    }

    private static void flip() {
        String said = "A bit (0 .. 18) of a CELL's amount flips: the amount";
        Run all = Run.test(37, said);
        int amount = 0;
        for (int bit = 0; bit <= 18; bit++) {
            amount += 1 << bit;
            Run.test(37, said).due("flip(0, " + bit + ")", 1 << bit).amountIs(0, 1 << bit)
                    .due("flip(0, " + bit + ")", 0).due("sum()", 0);
            all.due("flip(15, " + bit + ")", amount);
        }
        all.amountIs(15, 524287).due("flip(15, 0)", 524286);
        Run.test(37, said).make("part(15)", "part(79)", "edge(0, false)", "freeze(1, false)", "see(76, false)")
                .due("flip(335, 18)", 262144).due("flip(0, 1)", 2).due("flip(1, 2)", 4).due("flip(76, 3)", 8)
                .due("sum()", 262158);
        Run.test(37, "BAD").due("flip(0, 0)", 1).due("flip(0, 18)", 262145)
                .bad("flip(0, -1)", "flip(0, 19)", "flip(0, 20)", "flip(0, 31)", "flip(0, 32)", "flip(0, MIN)")
                .bad("flip(0, MAX)", "flip(-1, 0)", "flip(336, 0)", "flip(MIN, 0)", "flip(MAX, 0)");
        Run.test(37, ORDER).make("amount(3, 1000000)").bad("flip(16, 19)", "flip(335, -1)", "flip(3, 19)");
        Run.test(37, "NOTHING").finds(Run.NOTHING, "flip(16, 0)", "flip(79, 5)", "flip(80, 18)", "flip(335, 18)")
                .make("amount(3, 1000000)", "part(3)").finds(Run.NOTHING, "flip(3, 0)");
    }

    private static void flipBeyond() {
        Run.test(37, "BEYOND").make("amount(0, 1000000)")
                .finds(Run.BEYOND, "flip(0, 0)", "flip(0, 5)", "flip(0, 7)", "flip(0, 13)").due("flip(0, 6)", 999936)
                .due("flip(0, 6)", 1000000);
        // the last that is an amount, and the first that is none
        Run.test(37, "BEYOND").make("amount(0, 999936)").due("flip(0, 6)", 1000000);
        Run.test(37, "BEYOND").make("amount(0, 999937)").finds(Run.BEYOND, "flip(0, 6)").due("flip(0, 0)", 999936);
        Run.test(37, "BEYOND").make("amount(15, 737857)").finds(Run.BEYOND, "flip(15, 18)").make("amount(15, 737856)")
                .due("flip(15, 18)", 1000000);
        Run.test(37, "an amount that would be beyond").make("amount(0, 999999)").finds(Run.BEYOND, "flip(0, 6)")
                .due("flip(0, 0)", 999998);
    }

    private static void find() {
        String said = "FOUND, against a KEPT state: the CELL; how much its amount is greater by asked()";
        Run.test(38, said).make("keep(0)", "amount(0, 1)").due("find(0)", 0).asked(1).make("amount(0, 1000000)")
                .due("find(0)", 0).asked(1000000);
        Run.test(38, said).make("amount(15, 1000000)", "keep(1)", "amount(15, 0)").due("find(1)", 15).asked(-1000000)
                .make("amount(15, 999999)").due("find(1)", 15).asked(-1);
        Run.test(38, said).make("part(15)", "part(79)", "amount(335, 40)", "amount(0, 1000000)", "amount(334, 1000000)",
                "keep(0)", "flip(335, 5)").due("find(0)", 335).asked(-32).make("flip(335, 5)", "flip(335, 0)")
                .due("find(0)", 335).asked(1);
        Run every = Run.test(38, "how much the one is greater, and NAME and 1 from the other").make("keep(0)");
        for (int c = 0; c < 16; c++) {
            every.make("amount(" + c + ", 7)").due("find(0)", c).asked(7).make("amount(" + c + ", 0)");
        }
        // each against its own
        Run.test(38, said).make("keep(0)", "amount(3, 5)", "keep(1)", "amount(3, 9)").due("find(0)", 3).asked(9)
                .due("find(1)", 3).asked(4);
        // what else may be other: KINDS, MACHINES, THE TICK
        Run.test(38, said).make("keep(0)", "edge(1, false)", "freeze(2, false)", "give(3, 4)", "tick()", "flip(4, 2)")
                .due("find(0)", 4).asked(4);
        // it leaves all as it is but asked()
        Run.test(38, said).make("keep(0)", "flip(4, 2)", "told(0, 0)").due("find(0)", 4).amountIs(4, 4)
                .due("find(0)", 4);
    }

    private static void findNot() {
        Run.test(38, "NONE: nothing is other").make("amount(3, 7)", "keep(0)", "told(15, 3)").none("find(0)")
                .make("flip(3, 1)", "flip(3, 1)").none("find(0)")
                .make("edge(1, false)", "freeze(2, false)", "give(3, 4)", "tick()").none("find(0)").asked(12);
        Run.test(38, "NONE: nothing is other").make("amount(3, 8)", "keep(0)", "part(3)", "join(3)").none("find(0)");
        String more = "STATE: more is, or other CELLS are there";
        Run.test(38, more).make("keep(0)", "amount(0, 1)", "amount(15, 1)", "told(15, 3)").state("find(0)")
                .make("amount(0, 0)").due("find(0)", 15);
        // the sums alone look like one flip, of 1 by 2; or as if nothing were other
        String sums = "Also two sums: of amounts, and of amounts times (NAME and 1)";
        Run.test(38, sums).make("keep(0)", "amount(0, 1)", "amount(2, 1)").state("find(0)");
        Run.test(38, sums).make("amount(0, 1)", "keep(0)", "amount(0, 0)", "amount(5, 1)").state("find(0)");
        Run.test(38, sums).make("amount(1, 2)", "keep(0)", "amount(0, 1)", "amount(1, 0)", "amount(2, 1)")
                .state("find(0)");
        Run.test(38, more).make("keep(0)", "part(3)").state("find(0)").make("amount(0, 1)").state("find(0)")
                .make("join(3)").due("find(0)", 0);
        Run.test(38, more).make("part(3)", "keep(0)", "join(3)").state("find(0)").make("part(3)").none("find(0)");
        Run.test(38, more).make("keep(0)", "part(3)", "amount(28, 1)", "join(3)").due("find(0)", 3).asked(1);
        Run.test(38, "BAD").make("keep(0)", "keep(1)").bad("find(-1)", "find(2)", "find(MIN)", "find(MAX)");
        Run.test(38, "NOTHING").finds(Run.NOTHING, "find(0)", "find(1)").make("keep(1)", "amount(0, 1)", "part(3)")
                .finds(Run.NOTHING, "find(0)").state("find(1)");
    }

    private static void stops() {
        String said = "a MACHINE's CELLS go to the SPARE one with the least number (it is a MACHINE of KIND 0 then)";
        Run.test(39, said).make("machine(3, 4)", "machine(5, 4)", "give(2, 1)", "freeze(4, false)", "part(15)")
                .due("stops(0)", 3).due("work(0)", 0).due("work(3)", 17).tells(4, 5, 3).tells(79, 5, 3).tells(2, 5, 1)
                .due("count(5)", 1).due("machine(3, 1)", 0).due("stops(3)", 5).tells(0, 5, 5).due("machine(5, 0)", 0)
                .due("count(5)", 0);
        // the first of all, the last of all
        Run.test(39, said).make("deal(2)", "machine(0, 4)", "machine(5, 4)").due("stops(1)", 0).tells(7, 5, 0)
                .due("stops(0)", 5).tells(7, 5, 5);
        // one without CELLS takes a SPARE one, too; the one that stops keeps its KIND
        Run.test(39, "A MACHINE STOPS: to which its CELLS go").make("machine(2, 1)", "machine(4, 4)").due("stops(2)", 4)
                .due("work(4)", 0).due("count(5)", 0).due("machine(2, 0)", 1);
        Run.test(39, "A MACHINE STOPS: to which its CELLS go").make("machine(0, 3)", "machine(1, 4)").due("stops(0)", 1)
                .due("machine(0, 4)", 3).due("stops(1)", 0).due("work(0)", 16);
        Run.test(39, "BAD").make("machine(3, 4)").bad("stops(-1)", "stops(6)", "stops(MIN)", "stops(MAX)")
                .due("stops(5)", 3);
        Run.test(39, "BAD").bad("stops(-1)", "stops(6)");
        String not = "STATE: it is SPARE, there is no SPARE one";
        Run.test(39, not).state("stops(0)", "stops(5)").make("machine(5, 4)", "machine(4, 4)")
                .state("stops(5)", "stops(4)").due("stops(0)", 4).due("stops(4)", 5).state("stops(5)", "stops(0)");
        Run.test(39, not).make("machine(5, 4)").state("stops(5)").due("stops(0)", 5).state("stops(0)");
    }

    private static void keepingIs(int k, int d, int c, long above, long below) {
        Run.test(40, "Expected TICKS for each won by KEEPING each k, told by upper(), lower(): 1")
                .due("keeping(" + k + ", " + d + ", " + c + ")", 1).fraction(above, below);
    }

    private static void keeping() {
        keepingIs(1, 2, 0, 2, 1);
        keepingIs(8, 2, 0, 255, 4);
        keepingIs(1, 20, 0, 20, 19);
        keepingIs(8, 20, 0, 43082184795L, 33967126082L);
        keepingIs(1, 2, 20, 22, 1);
        keepingIs(8, 2, 20, 265, 4);
        keepingIs(1, 20, 20, 400, 19);
        keepingIs(8, 20, 20, 64000000000L, 16983563041L);
        keepingIs(4, 3, 7, 307, 64);
        String said = "KEEPING each k TICKS (1 .. 8), if one stops in each TICK with odds 1 by d (2 .. 20)";
        Run.test(40, said).due("keeping(1, 2, 0)", 1).due("keeping(8, 20, 20)", 1)
                .bad("keeping(0, 2, 0)", "keeping(9, 2, 0)", "keeping(MIN, 2, 0)", "keeping(MAX, 2, 0)")
                .bad("keeping(1, 1, 0)", "keeping(1, 21, 0)", "keeping(1, 0, 0)", "keeping(1, MIN, 0)",
                "keeping(1, MAX, 0)");
        Run.test(40, "keeping takes c TICKS (0 .. 20)").due("keeping(3, 2, 0)", 1).due("keeping(3, 2, 20)", 1)
                .bad("keeping(3, 2, -1)", "keeping(3, 2, 21)", "keeping(3, 2, MIN)", "keeping(3, 2, MAX)");
        Run.test(40, "BAD").bad("keeping(0, 1, -1)", "keeping(9, 21, 21)", "keeping(-1, -1, -1)");
    }

    private static void bestIs(String said, int d, int c, int k, long above, long below) {
        Run.test(41, said).due("best(" + d + ", " + c + ")", k).fraction(above, below);
    }

    private static void best() {
        String said = "what it takes told by upper(), lower()";
        bestIs(said, 2, 0, 1, 2, 1);
        bestIs(said, 20, 0, 1, 20, 19);
        bestIs(said, 2, 20, 3, 34, 3);
        bestIs(said, 20, 20, 8, 64000000000L, 16983563041L);
        bestIs("BEST is the k with the least", 2, 3, 2, 9, 2);
        bestIs("BEST is the k with the least", 2, 11, 3, 25, 3);
        bestIs("BEST is the k with the least", 19, 19, 8, 322687697779L, 88159684608L);
        // all that are alike: the least k counts
        String alike = "BEST k, the least of alike ones";
        bestIs(alike, 2, 2, 1, 4, 1);
        bestIs(alike, 2, 10, 2, 8, 1);
        bestIs(alike, 3, 3, 2, 27, 8);
        bestIs(alike, 4, 4, 3, 256, 81);
        bestIs(alike, 5, 5, 4, 3125, 1024);
        bestIs(alike, 6, 6, 5, 46656, 15625);
        bestIs(alike, 7, 7, 6, 823543, 279936);
        bestIs(alike, 8, 8, 7, 16777216, 5764801);
        Run.test(41, "BAD").due("best(2, 0)", 1).due("best(20, 20)", 8).due("best(2, 20)", 3).due("best(20, 0)", 1)
                .bad("best(1, 0)", "best(21, 0)", "best(0, 0)", "best(2, -1)")
                .bad("best(2, 21)", "best(MIN, 0)", "best(MAX, 0)", "best(2, MIN)", "best(2, MAX)", "best(1, 21)");
    }
}
