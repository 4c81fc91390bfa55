/** Promises 21 to 25, sentence by sentence: ticks, flows, sums. */
final class TicksBounds {
    private static final String CUT = "times n times the SIDES that they share (SQUARES' sides), "
            + "by m times 4 times its side, cut";
    private static final String OVER_RIM = "Over THE WORLD's rim, if it is open: "
            + "likewise by all sides at the rim together: that LEAVES";
    private static final String ANSWER = "A TICK: how many were PARTED, and 100 times how many JOINED";
    private static final String PARTED = "each CELL of KIND 0 or 1 with side above 1 "
            + "and an amount above P is PARTED (those that come are not)";
    private static final String JOINED = "four of KIND 1 that came from it, "
            + "with amounts together less than J, are JOINED";

    private TicksBounds() {
    }

    static void all() {
        flowsAreCut();
        flowsByParts();
        atOnce();
        rim();
        edges();
        frozen();
        parted();
        partedNot();
        joined();
        joinedInTurn();
        answers();
        beyond();
        fullWorld();
        cutOften();
        flow();
        flowOfLatest();
        sums();
        tops();
        overs();
    }

    /** From the least amount on a unit goes; below it none. */
    private static void leastThatFlows(String law, int from, int to, int least, String... world) {
        Run.test(22, CUT).law(law).make(world).make("amount(" + from + ", " + (least - 1) + ")", "tick()")
                .due("flow(" + from + ", " + to + ")", 0);
        Run.test(22, CUT).law(law).make(world).make("amount(" + from + ", " + least + ")", "tick()")
                .due("flow(" + from + ", " + to + ")", 1);
    }

    private static void flowsAreCut() {
        // 6 is parted, and of its four 40; 41 lies beside 177 and 179
        String[] small = {"part(6)", "part(40)"};
        leastThatFlows("F1/1", 5, 6, 4);
        leastThatFlows("F1/1", 5, 1, 4);
        leastThatFlows("F1/1", 5, 40, 8, "part(6)");
        leastThatFlows("F1/1", 5, 176, 16, small);
        leastThatFlows("F1/1", 5, 178, 16, small);
        leastThatFlows("F1/1", 40, 5, 4, "part(6)");
        leastThatFlows("F1/1", 40, 41, 4, "part(6)");
        leastThatFlows("F1/1", 41, 177, 8, small);
        leastThatFlows("F1/1", 177, 41, 4, small);
        leastThatFlows("F1/1", 176, 5, 4, small);
        leastThatFlows("F1/1", 176, 177, 4, small);
        leastThatFlows("F1/1", 176, 178, 4, small);
        Run.test(22, CUT).law("F1/1").make("amount(5, 1000000)", "tick()").due("flow(5, 6)", 250000)
                .due("flow(5, 9)", 250000).amountIs(5, 0);
        Run.test(22, CUT).law("F1/1").make("amount(5, 7)", "tick()").due("flow(5, 6)", 1).amountIs(5, 3);
    }

    private static void flowsByParts() {
        String gives = "each CELL gives n by m of its amount (n 0 .. 99, m 1 .. 99, n no more than m";
        leastThatFlows("F1/2", 5, 6, 8);
        leastThatFlows("F1/99", 5, 6, 396);
        leastThatFlows("F99/99", 5, 6, 4);
        leastThatFlows("F98/99", 5, 6, 5);
        leastThatFlows("F2/3", 5, 6, 6);
        Run.test(22, gives).law("F0/1").make("amount(5, 1000000)", "tick()").due("flow(5, 6)", 0).amountIs(5, 1000000);
        Run.test(22, gives).law("F0/99").make("amount(5, 1000000)", "tick()").due("flow(5, 6)", 0).amountIs(5, 1000000);
        // 1000000 times 99 times 4 by 99 times 16, and 98, and 1
        Run.test(22, gives).law("F99/99").make("amount(5, 1000000)", "tick()").due("flow(5, 6)", 250000);
        Run.test(22, gives).law("F98/99").make("amount(5, 1000000)", "tick()").due("flow(5, 6)", 247474);
        Run.test(22, gives).law("F1/99").make("amount(5, 1000000)", "tick()").due("flow(5, 6)", 2525);
    }

    private static void atOnce() {
        Run.test(21, "all FLOWS at once").law("F1/1").make("amount(0, 16)", "amount(1, 16)").due("tick()", 0)
                .due("flow(0, 1)", 4).due("flow(1, 0)", 4).amountIs(0, 12).amountIs(1, 8).amountIs(4, 4).amountIs(2, 4)
                .amountIs(5, 4).amountIs(3, 0).amountIs(6, 0).due("sum()", 32);
        Run.test(22, "its amount (as the TICK begins)").law("F1/1").make("amount(0, 16)", "tick()").due("flow(0, 1)", 4)
                .due("flow(1, 2)", 0).due("flow(1, 5)", 0).due("flow(4, 8)", 0).amountIs(2, 0);
        // what comes to a name that is taken later does not go on, nor to one that was taken before
        Run.test(22, "its amount (as the TICK begins)").law("F1/1").make("amount(15, 16)", "tick()")
                .due("flow(15, 14)", 4).due("flow(14, 13)", 0).amountIs(13, 0).amountIs(10, 0);
    }

    /** The least amount of which a unit leaves over the open rim; none if the rim is shut. */
    private static void leastThatLeaves(int c, int least, String... world) {
        Run.test(25, OVER_RIM).law("F1/1 O1").make(world).make("amount(" + c + ", " + (least - 1) + ")", "tick()")
                .due("over(0)", 0);
        Run.test(25, OVER_RIM).law("F1/1 O1").make(world).make("amount(" + c + ", " + least + ")", "tick()")
                .due("over(0)", 1);
        Run.test(25, OVER_RIM).law("F1/1 O0").make(world).make("amount(" + c + ", 1000000)", "tick()").due("over(0)", 0)
                .due("sum()", 1000000);
        Run.test(25, OVER_RIM).law("F1/1").make(world).make("amount(" + c + ", 1000000)", "tick()").due("over(0)", 0)
                .due("sum()", 1000000);
    }

    private static void rim() {
        for (int corner : new int[] {0, 3, 12, 15}) {
            leastThatLeaves(corner, 2);
        }
        for (int side : new int[] {1, 4, 7, 14}) {
            leastThatLeaves(side, 4);
        }
        leastThatLeaves(16, 2, "part(0)");
        leastThatLeaves(17, 4, "part(0)");
        leastThatLeaves(80, 2, "part(0)", "part(16)");
        leastThatLeaves(81, 4, "part(0)", "part(16)");
        leastThatLeaves(335, 2, "part(15)", "part(79)");
        Run.test(25, OVER_RIM).law("F1/1 O1").make("amount(0, 1000000)", "tick()").due("over(0)", 500000).amountIs(0, 0)
                .due("sum()", 500000);
        // those inside have none
        Run.test(25, OVER_RIM).law("F1/1 O1").make("amount(5, 1000000)", "amount(10, 1000000)", "tick()")
                .due("over(0)", 0).due("sum()", 2000000);
        Run.test(25, OVER_RIM).law("F1/1 O1").make("part(0)", "amount(19, 1000000)", "tick()").due("over(0)", 0);
        // the rim is no way round to the other side
        Run.test(22, OVER_RIM).law("F1/1 O1").make("amount(0, 16)", "amount(3, 16)", "tick()").due("flow(0, 3)", 0)
                .due("flow(3, 0)", 0).due("flow(0, 12)", 0).due("flow(3, 4)", 0).due("flow(3, 15)", 0).amountIs(12, 0)
                .amountIs(15, 0);
    }

    private static void edges() {
        String gives = "An EDGE gives, but keeps its amount (what it gave is PUT in), and what comes to it LEAVES";
        Run.test(25, gives).law("F1/1").make("edge(5, false)", "amount(5, 16)").due("tick()", 0).amountIs(5, 16)
                .amountIs(1, 4).amountIs(9, 4).due("over(1)", 16).due("over(0)", 0).due("tick()", 0).due("over(1)", 32)
                .due("over(0)", 4).due("mark(5, 3)", 4);
        Run.test(25, gives).law("F1/1 O1").make("edge(0, false)", "amount(0, 16)", "tick()").due("over(1)", 16)
                .due("over(0)", 8).amountIs(0, 16);
        Run.test(25, gives).law("F1/1").make("edge(0, false)", "edge(1, false)", "amount(0, 16)", "tick()")
                .due("over(1)", 8).due("over(0)", 4).amountIs(1, 0).amountIs(4, 4).due("flow(0, 1)", 4);
        // what is too little to go is not PUT in
        Run.test(25, gives).law("F1/1").make("edge(5, false)", "amount(5, 3)", "tick()").due("over(1)", 0)
                .due("over(0)", 0);
        Run.test(25, gives).law("F1/1").make("edge(5, false)", "amount(5, 1000000)", "tick()").due("over(1)", 1000000)
                .amountIs(5, 1000000);
        // once it is a CELL again its amount goes
        Run.test(25, gives).law("F1/1").make("edge(5, false)", "amount(5, 16)", "edge(5, true)", "tick()")
                .due("over(1)", 0).amountIs(5, 0);
        Run.test(21, "(a CELL: its amount stays as told)").law("F1/1")
                .make("edge(5, false)", "amount(1, 1000000)", "amount(5, 999999)", "tick()").amountIs(5, 999999)
                .make("amount(5, 0)", "tick()").amountIs(5, 0);
    }

    private static void frozen() {
        String said = "(FROZEN: none, to or from.)";
        Run.test(22, said).law("F1/1 O1").make("freeze(0, false)", "amount(0, 1000000)", "amount(1, 16)",
                "edge(4, false)", "amount(4, 16)", "tick()").amountIs(0, 1000000).due("flow(0, 1)", 0)
                .due("flow(1, 0)", 0).due("flow(4, 0)", 0).due("flow(0, 4)", 0).due("over(0)", 4 + 4).due("over(1)", 12)
                .amountIs(1, 4);
        Run.test(22, said).law("F1/1").make("freeze(0, false)", "freeze(1, false)", "amount(0, 16)", "tick()")
                .due("flow(0, 1)", 0).amountIs(0, 16);
        Run.test(22, said).law("F1/1").make("freeze(5, false)", "amount(5, 16)", "freeze(5, true)", "tick()")
                .due("flow(5, 6)", 4).amountIs(5, 0);
    }

    private static void partedAbove(String law, int c, int most, String... world) {
        Run.test(21, PARTED).law(law).make(world).make("amount(" + c + ", " + most + ")").due("tick()", 0)
                .amountIs(c, most);
        if (most < 1000000) {
            Run.test(21, PARTED).law(law).make(world).make("amount(" + c + ", " + (most + 1) + ")").due("tick()", 1)
                    .finds(Run.NOTHING, "told(" + c + ", 0)").due("sum()", most + 1);
        }
    }

    private static void parted() {
        partedAbove("P1", 0, 1);
        partedAbove("P100", 15, 100);
        partedAbove("P999999", 0, 999999);
        partedAbove("P100", 16, 100, "part(0)");
        partedAbove("P100", 79, 100, "part(15)");
        // without a mark none is
        partedAbove("", 0, 1000000);
        partedAbove("J5", 0, 1000000);
        // of side 1 none is
        partedAbove("P1", 80, 1000000, "part(0)", "part(16)");
        partedAbove("P1", 335, 1000000, "part(15)", "part(79)");
        // as the FLOWS leave it: 40 goes to four, of 44 each gets 11
        Run.test(21, PARTED).law("F1/1 P10").make("amount(5, 40)").due("tick()", 0);
        Run.test(21, PARTED).law("F1/1 P10").make("amount(5, 44)").due("tick()", 4).due("at(4, 4)", 5).amountIs(40, 3);
        // those that come are not, though they are above
        Run.test(21, PARTED).law("P1").make("amount(0, 1000000)").due("tick()", 1).amountIs(16, 250000).due("tick()", 4)
                .amountIs(80, 62500).due("tick()", 0);
        Run.test(21, "by rising NAMES as they are there").law("P1")
                .make("part(3)", "amount(28, 9)", "amount(15, 9)", "amount(0, 9)").due("tick()", 3).due("count(1)", 28);
    }

    private static void partedNot() {
        Run.test(21, PARTED).law("P1").make("part(0)", "see(16, false)", "edge(5, false)", "freeze(10, false)")
                .make("amount(16, 1000000)", "amount(5, 1000000)", "amount(10, 1000000)").due("tick()", 0)
                .due("count(1)", 19).make("see(16, true)").due("tick()", 1).make("edge(5, true)").due("tick()", 1)
                .make("freeze(10, true)").due("tick()", 1 + 4);
    }

    private static void joinedBelow(String law, int c, int first, int together, String... world) {
        Run.test(21, JOINED).law(law).make(world).make("amount(" + first + ", " + together + ")").due("tick()", 0)
                .amountIs(first, together);
        if (together > 0) {
            Run.test(21, JOINED).law(law).make(world).make("amount(" + (first + 3) + ", " + (together - 1) + ")")
                    .due("tick()", 100).amountIs(c, together - 1);
        }
    }

    private static void joined() {
        joinedBelow("J1", 0, 16, 1, "part(0)");
        joinedBelow("J100", 15, 76, 100, "part(15)");
        joinedBelow("J999999", 0, 16, 999999, "part(0)");
        joinedBelow("J100", 16, 80, 100, "part(0)", "part(16)", "amount(17, 100)");
        joinedBelow("J100", 79, 332, 100, "part(15)", "part(79)", "amount(76, 100)");
        // no sum is less than 0, and without a mark none is
        joinedBelow("J0", 0, 16, 0, "part(0)");
        joinedBelow("", 0, 16, 0, "part(0)");
        joinedBelow("P5", 0, 16, 0, "part(0)");
        for (int q = 0; q < 4; q++) {
            // one that is SEEN, and one that is not there
            Run.test(21, JOINED).law("J9").make("part(0)", "see(" + (16 + q) + ", false)").due("tick()", 0)
                    .make("see(" + (16 + q) + ", true)").due("tick()", 100);
            int parted = 16 + q;
            Run.test(21, JOINED).law("J9")
                    .make("part(0)", "part(" + parted + ")", "see(" + (16 + 4 * parted) + ", false)").due("tick()", 0);
        }
        // as the FLOWS leave them: 17 gives 1 each to 1 on the right and to 16, 19
        Run.test(21, JOINED).law("F1/1 J4").make("part(0)", "amount(17, 4)").due("tick()", 100).amountIs(0, 3)
                .amountIs(1, 1);
        Run.test(21, JOINED).law("F1/1 J3").make("part(0)", "amount(17, 4)").due("tick()", 0).amountIs(16, 1)
                .amountIs(19, 1).amountIs(17, 1);
        Run.test(21, JOINED).law("J999999").make("part(0)", "amount(16, 1000000)", "amount(17, 1000000)")
                .due("tick()", 0);
    }

    private static void joinedInTurn() {
        String down = "for NAMES 0 .. 79 from 79 down";
        Run.test(21, down).law("J1").make("part(0)", "part(16)").due("tick()", 200).due("at(0, 0)", 0);
        Run.test(21, down).law("J1").make("part(15)", "part(79)").due("tick()", 200).due("at(15, 15)", 15);
        Run.test(21, down).law("J6").make("part(0)", "part(16)", "amount(80, 5)").due("tick()", 200).amountIs(0, 5);
        Run.test(21, down).law("J6").make("part(0)", "part(16)", "amount(80, 5)", "amount(19, 1)").due("tick()", 100)
                .amountIs(16, 5).amountIs(19, 1);
        String too = "(those PARTED in this TICK, too)";
        Run.test(21, too).law("P7 J9").make("amount(0, 8)").due("tick()", 101).amountIs(0, 8).due("count(1)", 16);
        Run.test(21, too).law("P7 J8").make("amount(0, 8)").due("tick()", 1).amountIs(16, 2);
        // 16 is PARTED, JOINED, and with the three beside it JOINED once more
        Run.test(21, too).law("P7 J9").make("part(0)", "amount(16, 8)").due("tick()", 201).amountIs(0, 8);
        Run.test(21, too).law("P7 J9").make("amount(0, 8)", "give(0, 4)", "tick()").tells(0, 5, 4).tells(0, 0, 0);
    }

    private static void answers() {
        Run.test(21, ANSWER).due("tick()", 0).due("count(0)", 1).due("tick()", 0).due("count(0)", 2);
        Run many = Run.test(21, ANSWER);
        Run both = Run.test(21, ANSWER).law("P7 J9");
        for (int c = 0; c < 16; c++) {
            many.make("amount(" + c + ", 8)");
            both.make("amount(" + c + ", 8)");
        }
        both.due("tick()", 1616).due("count(1)", 16);
        many.law("P1").due("tick()", 16).due("count(1)", 64).due("tick()", 64).due("count(1)", 256).due("tick()", 0)
                .law("J3").due("tick()", 6400).due("count(1)", 64).law("J9").due("tick()", 1600).due("count(1)", 16)
                .due("sum()", 128).law("P1").due("tick()", 16).due("tick()", 64).law("J9").due("tick()", 8000)
                .due("count(1)", 16).due("sum()", 128);
    }

    /** EDGES 6 and 9 give 10 250000 each, 11 and 14 are FROZEN. */
    private static Run besideTwo(Run run, String law, int amount) {
        return run.make("edge(6, false)", "edge(9, false)", "amount(6, 1000000)", "amount(9, 1000000)",
                "freeze(11, false)", "freeze(14, false)").law(law).make("amount(10, " + amount + ")");
    }

    private static void beyond() {
        String said = "If an amount would be beyond 1000000, nothing is done";
        // 999998 gives 249999 twice: 500000 are left, and 500000 come; of 999999 500001 are left
        besideTwo(Run.test(21, said), "F1/1", 999998).due("tick()", 0).amountIs(10, 1000000).due("count(0)", 1);
        besideTwo(Run.test(21, said), "F1/1", 1000000).due("tick()", 0).amountIs(10, 1000000);
        besideTwo(Run.test(21, "STATE: an amount would be beyond"), "F1/1", 999999).state("tick()")
                .due("tick()", MeshWorlds.STATE).due("count(0)", 0).due("over(0)", 0).due("over(1)", 0)
                .due("flow(6, 10)", 0).due("mark(6, 3)", 0).amountIs(10, 999999);
        // that it would be PARTED does not help
        besideTwo(Run.test(21, said), "F1/1 P5", 999999).state("tick()");
        besideTwo(Run.test(21, said), "F1/1 O1 J5", 999999).make("keep(0)", "row(0, 3)", "run(2, 2)", "share(0, 1, 1)")
                .state("tick()");
        // behind a tick that was done, and once it is within again
        besideTwo(Run.test(21, said), "F1/1", 999998).make("tick()", "amount(10, 999999)").state("tick()")
                .make("tick()", "amount(10, 999998)").due("tick()", 0).due("count(0)", 2);
        // the first CELL, the last one, a SEEN one
        Run.test(21, said).law("F1/1").make("edge(1, false)", "edge(4, false)", "amount(1, 1000000)",
                "amount(4, 1000000)", "amount(0, 999999)").state("tick()").make("amount(0, 999998)").due("tick()", 0)
                .amountIs(0, 1000000);
        Run.test(21, said).law("F1/1")
                .make("part(15)", "part(79)", "amount(333, 1000000)", "amount(334, 1000000)", "amount(335, 999999)")
                .state("tick()").make("see(335, false)").state("tick()").make("amount(335, 999998)").due("tick()", 0)
                .amountIs(335, 1000000);
        // what comes to an EDGE is not too much, though 3 would be left and 1000000 come
        Run.test(21, said).law("F1/1").make("edge(5, false)", "amount(5, 999999)", "amount(1, 1000000)")
                .make("amount(4, 1000000)", "amount(6, 1000000)", "amount(9, 1000000)").due("tick()", 0)
                .amountIs(5, 999999).due("mark(5, 3)", 1000000).make("amount(1, 1000000)", "amount(4, 1000000)")
                .make("amount(6, 1000000)", "amount(9, 1000000)", "edge(5, true)").state("tick()");
        // EDGES and FROZEN ones keep theirs
        Run.test(21, said).law("F1/1").make("edge(5, false)", "freeze(6, false)", "amount(5, 1000000)",
                "amount(6, 1000000)", "amount(1, 1000000)")
                .make("amount(4, 1000000)", "amount(2, 1000000)", "amount(9, 1000000)").due("tick()", 0)
                .amountIs(5, 1000000).amountIs(6, 1000000);
    }

    /** As many CELLS as there can be, with the least and the greatest amounts that flow. */
    private static void fullWorld() {
        String said = "all FLOWS at once";
        Run.test(21, said).partAll().law("F1/1").make("amount(80, 4)", "amount(335, 4)").due("tick()", 0)
                .amountIs(80, 2).amountIs(81, 1).amountIs(82, 1).amountIs(335, 2).amountIs(334, 1).amountIs(333, 1)
                .due("sum()", 8).due("off(335, 20)", 40).due("most(335, 1)", 335).fraction(1, 2)
                .due("share(335, 333, 1)", 1).fraction(1, 4).due("share(335, 334, 1)", 1).fraction(1, 4);
        // each gives as much as it gets; over the open rim a fourth goes by each of 64 sides
        for (String law : new String[] {"F1/1", "F1/1 O1"}) {
            Run full = Run.test(21, said).partAll().law(law);
            for (int c = 80; c < 336; c++) {
                full.make("amount(" + c + ", 1000000)");
            }
            boolean open = law.endsWith("O1");
            full.due("tick()", 0).amountIs(80, open ? 500000 : 1000000).amountIs(92, 1000000)
                    .amountIs(335, open ? 500000 : 1000000).due("sum()", open ? 240000000 : 256000000)
                    .due("over(0)", open ? 16000000 : 0).due("flow(334, 335)", 250000);
        }
    }

    /** Cut anew over and over, the world's flows stay what they are. */
    private static void cutOften() {
        Run often = Run.test(21, "all FLOWS at once").law("F1/1");
        for (int i = 0; i < 120; i++) {
            often.make("part(" + i % 16 + ")", "tick()", "join(" + i % 16 + ")");
        }
        often.make("amount(10, 16)", "amount(15, 16)").due("tick()", 0).amountIs(10, 0).amountIs(6, 4)
                .amountIs(9, 4).amountIs(11, 8).amountIs(14, 8).amountIs(15, 8).due("count(0)", 121).due("curve(15)", 15);
    }

    private static void flow() {
        String said = "FLOW from a CELL to another one in the latest TICK (by NAMES; 0: none was, or none went)";
        Run.test(22, said).law("F1/1").make("amount(5, 16)").due("flow(5, 6)", 0).due("flow(0, 335)", 0).make("tick()")
                .due("flow(5, 6)", 4).due("flow(6, 5)", 0).due("flow(5, 5)", 0).due("flow(5, 10)", 0)
                .due("flow(5, 7)", 0).due("flow(5, 40)", 0).due("flow(36, 6)", 0).due("flow(36, 37)", 0)
                .due("flow(335, 0)", 0).due("flow(0, 0)", 0).due("flow(335, 335)", 0);
        // all of one CELL that has neighbours of all sides
        Run.test(22, said).law("F1/1").make("part(6)", "part(40)", "amount(5, 1600)", "tick()").due("flow(5, 176)", 100)
                .due("flow(5, 178)", 100).due("flow(5, 42)", 200).due("flow(5, 177)", 0).due("flow(5, 40)", 0)
                .due("flow(5, 6)", 0).due("flow(5, 43)", 0).due("flow(5, 4)", 400);
        Run.test(22, "BAD").bad("flow(-1, 0)", "flow(336, 0)", "flow(0, -1)", "flow(0, 336)", "flow(MIN, 0)",
                "flow(0, MAX)", "flow(MAX, MIN)").changesNothing("flow(0, 335)", "flow(335, 0)").law("F1/1")
                .make("tick()").bad("flow(-1, 0)", "flow(0, 336)");
    }

    private static void flowOfLatest() {
        String said = "in the latest TICK";
        Run.test(22, said).law("F1/1").make("amount(5, 16)", "tick()", "amount(5, 0)").due("flow(5, 6)", 4)
                .make("amount(5, 1000)").due("flow(5, 6)", 4).law("F1/2").due("flow(5, 6)", 4).make("tick()")
                .due("flow(5, 6)", 125).due("flow(6, 5)", 0).law("").make("tick()").due("flow(5, 6)", 0);
        // PARTED in it or behind it, JOINED, FROZEN, given back: what went is still told by the NAMES of then
        Run.test(22, said).law("F1/1 P3").make("amount(5, 16)").due("tick()", 4).due("flow(5, 6)", 4)
                .due("flow(5, 40)", 0).due("flow(40, 41)", 0);
        Run.test(22, said).law("F1/1").make("amount(5, 16)", "tick()", "part(5)", "freeze(6, false)")
                .due("flow(5, 6)", 4).due("flow(36, 37)", 0).due("flow(37, 6)", 0);
        Run.test(22, said).law("F1/1").make("part(5)", "amount(37, 16)", "tick()", "join(5)").due("flow(37, 6)", 4)
                .due("flow(5, 6)", 0);
        Run.test(22, said).law("F1/1").make("freeze(6, false)", "amount(5, 16)", "tick()", "freeze(6, true)")
                .due("flow(5, 6)", 0).due("flow(5, 4)", 4);
        // what went in an earlier one is not told, though the CELL was not there, or was FROZEN, in the latest
        Run.test(22, said).law("F1/1").make("amount(5, 16)", "tick()", "part(5)", "tick()").due("flow(5, 6)", 0)
                .due("flow(6, 5)", 0).due("flow(6, 37)", 0).due("flow(6, 7)", 1);
        Run.test(22, said).law("F1/1").make("amount(5, 16)", "tick()", "freeze(5, false)", "tick()").due("flow(5, 6)", 0)
                .due("flow(6, 5)", 0).due("flow(6, 7)", 1);
        Run.test(22, said).law("F1/1").make("part(5)", "amount(37, 16)", "tick()", "join(5)", "tick()").due("flow(37, 6)", 0)
                .due("flow(37, 36)", 0).due("flow(5, 6)", 2);
        // a tick that is refused was none
        besideTwo(Run.test(22, said), "F1/1", 999998).make("tick()").due("flow(10, 6)", 249999)
                .make("amount(10, 999999)", "tick()").due("flow(10, 6)", 249999);
    }

    private static void sums() {
        Run.test(23, "All amounts together").due("sum()", 0).make("amount(0, 1)").due("sum()", 1)
                .make("amount(15, 1000000)").due("sum()", 1000001).make("part(15)").due("sum()", 1000001)
                .changesNothing("sum()");
        Run.test(23, "All amounts together").make("part(0)", "see(16, false)", "edge(5, false)", "freeze(10, false)",
                "amount(16, 1)", "amount(17, 2)").make("amount(5, 4)", "amount(10, 8)", "amount(15, 16)")
                .due("sum()", 31);
        Run full = Run.test(23, "All amounts together").partAll();
        for (int c = 80; c < 336; c++) {
            full.make("amount(" + c + ", 1000000)");
        }
        full.due("sum()", 256000000).due("count(1)", 256).due("top()", 80);
    }

    private static void tops() {
        String said = "The CELL with the greatest amount; the first of alike ones";
        Run.test(24, said).due("top()", 0).make("amount(15, 1)").due("top()", 15).make("amount(3, 1)").due("top()", 3)
                .make("amount(15, 2)").due("top()", 15);
        Run.test(24, said).make("part(0)").due("top()", 1).make("part(1)").due("top()", 2).make("amount(19, 1)")
                .due("top()", 19).make("amount(18, 1)").due("top()", 18).changesNothing("top()");
        Run.test(24, said).make("part(15)", "part(79)", "amount(335, 1000000)").due("top()", 335)
                .make("amount(334, 1000000)").due("top()", 334);
        Run.test(24, said).make("edge(5, false)", "freeze(6, false)", "amount(5, 7)", "amount(6, 8)").due("top()", 6)
                .make("amount(5, 8)").due("top()", 5);
        // one that is not there does not count
        Run.test(24, said).make("amount(0, 100)", "part(0)", "amount(7, 30)").due("top()", 7);
        Run.test(24, said).make("part(0)", "amount(16, 100)", "join(0)", "amount(0, 1)").due("top()", 0)
                .make("amount(7, 2)").due("top()", 7);
        Run all = Run.test(24, said);
        for (int c = 0; c < 16; c++) {
            all.make("part(" + c + ")");
        }
        all.due("top()", 16);
    }

    private static void overs() {
        String said = "What LEAVES (0), what is PUT in (1), by TICKS since the beginning";
        Run.test(25, said).due("over(0)", 0).due("over(1)", 0).law("F1/1 O1").make("amount(0, 16)", "tick()")
                .due("over(0)", 8).due("over(1)", 0).make("amount(0, 16)", "tick()").due("over(0)", 8 + 8 + 1 + 1);
        // what the other calls give or take is no part of it
        Run.test(25, said).law("F1/1 O1")
                .make("amount(0, 500)", "amount(0, 0)", "flip(1, 5)", "edge(2, false)", "amount(2, 900)")
                .due("over(0)", 0).due("over(1)", 0);
        Run.test(25, said).law("F1/1 O1").make("keep(0)", "amount(0, 16)", "tick()", "goOn(0)").due("over(0)", 8);
        Run great = Run.test(25, said).law("F1/1 O1");
        for (int c = 0; c < 16; c++) {
            great.make("edge(" + c + ", false)", "amount(" + c + ", 1000000)");
        }
        for (int i = 0; i < 150; i++) {
            great.make("tick()");
        }
        great.due("over(0)", 2400000000L).due("over(1)", 2400000000L).due("sum()", 16000000);
        Run.test(25, "BAD: 0").law("F1/1 O1").make("edge(0, false)", "amount(0, 16)", "tick()").due("over(0)", 8)
                .due("over(1)", 16).due("over(-1)", 0).due("over(2)", 0).due("over(MIN)", 0).due("over(MAX)", 0)
                .changesNothing("over(-1)", "over(2)", "over(MIN)", "over(MAX)");
    }
}
