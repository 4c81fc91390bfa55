/** Promises 21 to 25: ticks, flows, sums. */
public final class TicksTest {
    private static final Check CHECK = new Check("TicksTest");

    public static void main(String[] args) {
        plainFlow();
        unlikeSides();
        openRim();
        edgeAndFrozen();
        partingAndJoining();
        joinedTwiceInOneTick();
        beyond();
        flowOfTheLatestTick();
        sumsAndTops();
        overs();
        CHECK.end();
    }

    private static void plainFlow() {
        MeshWorlds x = new MeshWorlds();
        CHECK.law(x, "F2/3");
        x.amount(5, 1001);
        CHECK.due("tick()", x.tick(), 0);
        // 1001 times 2 times 4 by 3 times 16, cut: 166, to each of four
        CHECK.amountIs(x, 5, 1001 - 4 * 166);
        for (int c : new int[] {1, 4, 6, 9}) {
            CHECK.amountIs(x, c, 166);
            CHECK.due("flow(5, " + c + ")", x.flow(5, c), 166);
            CHECK.due("flow(" + c + ", 5)", x.flow(c, 5), 0);
        }
        CHECK.due("flow(5, 10)", x.flow(5, 10), 0);
        CHECK.due("flow(5, 5)", x.flow(5, 5), 0);
        CHECK.due("count(0)", x.count(0), 1);
    }

    private static void unlikeSides() {
        MeshWorlds x = new MeshWorlds();
        CHECK.law(x, "F1/1");
        x.part(5);
        x.part(36);
        x.amount(4, 1600);
        x.amount(36 + 1, 800);
        x.amount(160, 400);
        CHECK.due("tick()", x.tick(), 0);
        // 4 shares one side each with 160 and 162, two with 38; 1600 by 16 for each
        CHECK.due("flow(4, 160)", x.flow(4, 160), 100);
        CHECK.due("flow(4, 162)", x.flow(4, 162), 100);
        CHECK.due("flow(4, 38)", x.flow(4, 38), 200);
        CHECK.due("flow(4, 161)", x.flow(4, 161), 0);
        CHECK.due("flow(4, 0)", x.flow(4, 0), 400);
        CHECK.due("flow(4, 8)", x.flow(4, 8), 400);
        CHECK.due("flow(4, 5)", x.flow(4, 5), 0);
        // 37 has 8 sides: 100 for each
        CHECK.due("flow(37, 161)", x.flow(37, 161), 100);
        CHECK.due("flow(37, 163)", x.flow(37, 163), 100);
        CHECK.due("flow(37, 39)", x.flow(37, 39), 200);
        CHECK.due("flow(37, 1)", x.flow(37, 1), 200);
        CHECK.due("flow(37, 6)", x.flow(37, 6), 200);
        CHECK.due("flow(160, 4)", x.flow(160, 4), 100);
        CHECK.due("flow(160, 161)", x.flow(160, 161), 100);
        CHECK.due("flow(160, 163)", x.flow(160, 163), 0);
        CHECK.amountIs(x, 4, 100 + 400);
        CHECK.refused(x, "flow(-1, 0)", MeshWorlds.BAD, () -> x.flow(-1, 0));
        CHECK.refused(x, "flow(0, 336)", MeshWorlds.BAD, () -> x.flow(0, 336));
        CHECK.refused(x, "flow(336, 0)", MeshWorlds.BAD, () -> x.flow(336, 0));
        CHECK.refused(x, "flow(0, -1)", MeshWorlds.BAD, () -> x.flow(0, -1));
    }

    private static void openRim() {
        MeshWorlds x = new MeshWorlds();
        CHECK.law(x, "F1/1 O1");
        x.amount(0, 17);
        x.amount(2, 7);
        x.tick();
        // 17 by 16: 8 sides at the rim together 8, 4 sides 4, 4; 7 by 16: 4 sides 1 each
        CHECK.amountIs(x, 0, 1);
        CHECK.amountIs(x, 2, 3);
        CHECK.due("over(0)", x.over(0), 8 + 1);
        CHECK.due("over(1)", x.over(1), 0);
        CHECK.due("sum()", x.sum(), 24 - 9);
        CHECK.law(x, "F1/1");
        x.amount(0, 17);
        x.tick();
        CHECK.due("over(0) with a shut rim", x.over(0), 9);
    }

    private static void edgeAndFrozen() {
        MeshWorlds x = new MeshWorlds();
        CHECK.law(x, "F1/2 O1");
        x.edge(0, false);
        x.freeze(1, false);
        x.amount(0, 160);
        x.amount(1, 320);
        x.amount(4, 64);
        x.tick();
        CHECK.amountIs(x, 0, 160);
        CHECK.amountIs(x, 1, 320);
        CHECK.due("flow(0, 1)", x.flow(0, 1), 0);
        CHECK.due("flow(1, 0)", x.flow(1, 0), 0);
        CHECK.due("flow(0, 4)", x.flow(0, 4), 20);
        CHECK.due("flow(4, 0)", x.flow(4, 0), 8);
        // the EDGE gave 20 to 4 and 40 over the rim; 8 came to it, and 8 left 4 over the rim
        CHECK.due("over(1)", x.over(1), 60);
        CHECK.due("over(0)", x.over(0), 40 + 8 + 8);
        CHECK.due("mark(0, 3)", x.mark(0, 3), 8);
        CHECK.amountIs(x, 4, 64 - 32 + 20);
        // two EDGES beside each other: what one gives is put in and leaves
        MeshWorlds y = new MeshWorlds();
        CHECK.law(y, "F1/1");
        y.edge(0, false);
        y.edge(1, false);
        y.freeze(4, false);
        y.freeze(5, false);
        y.freeze(2, false);
        y.amount(0, 16);
        y.tick();
        CHECK.due("over(0) between EDGES", y.over(0), 4);
        CHECK.due("over(1) between EDGES", y.over(1), 4);
        CHECK.amountIs(y, 1, 0);
    }

    private static void partingAndJoining() {
        MeshWorlds x = new MeshWorlds();
        x.amount(0, 100);
        x.amount(1, 101);
        x.amount(2, 101);
        x.amount(3, 101);
        x.edge(2, false);
        x.freeze(3, false);
        x.part(7);
        x.amount(44, 500);
        x.amount(45, 500);
        x.amount(46, 100);
        x.see(45, false);
        CHECK.law(x, "P100");
        // 1 and 44; 0 and 46 are not above, 2, 3 and 45 not of the KIND; those that come are not PARTED
        CHECK.due("tick()", x.tick(), 2);
        CHECK.due("at(4, 0)", x.at(4, 0), 20);
        CHECK.due("at(12, 4)", x.at(12, 4), 192);
        CHECK.due("at(14, 4)", x.at(14, 4), 45);
        CHECK.due("at(0, 0)", x.at(0, 0), 0);
        CHECK.amountIs(x, 20, 26);
        CHECK.amountIs(x, 192, 125);
        CHECK.due("tick() again", x.tick(), 0);
        // amounts together less than J: 101 and 500
        CHECK.law(x, "J101");
        CHECK.due("tick() J101", x.tick(), 0);
        CHECK.law(x, "J102");
        CHECK.due("tick() J102", x.tick(), 100);
        CHECK.due("at(4, 0)", x.at(4, 0), 1);
        x.amount(46, 0);
        CHECK.law(x, "J501");
        CHECK.due("tick() J501", x.tick(), 100);
        CHECK.due("at(12, 4)", x.at(12, 4), 44);
        CHECK.law(x, "J999999");
        CHECK.due("tick() with a SEEN one", x.tick(), 0);
        x.see(45, true);
        CHECK.due("tick() without", x.tick(), 100);
        CHECK.amountIs(x, 7, 1000);
        // J 0: no sum is less
        x.part(8);
        CHECK.law(x, "J0");
        CHECK.due("tick() J0", x.tick(), 0);
        CHECK.law(x, "J1");
        CHECK.due("tick() J1", x.tick(), 100);
    }

    private static void joinedTwiceInOneTick() {
        MeshWorlds x = new MeshWorlds();
        x.amount(10, 800);
        x.part(10);
        x.part(57);
        x.part(59);
        CHECK.law(x, "J900");
        CHECK.due("tick()", x.tick(), 300);
        CHECK.amountIs(x, 10, 800);
        CHECK.tells(x, 10, 0, 0);
        // what is PARTED in this tick may be JOINED, too
        CHECK.law(x, "P700 J801");
        CHECK.due("tick()", x.tick(), 101);
        CHECK.amountIs(x, 10, 800);
        CHECK.law(x, "P700 J800");
        CHECK.due("tick()", x.tick(), 1);
        // 56 .. 59 have 200 each: all are PARTED, and JOINED to four, and to one
        CHECK.law(x, "P199 J900");
        CHECK.due("tick()", x.tick(), 504);
    }

    private static void beyond() {
        MeshWorlds x = new MeshWorlds();
        for (int c : new int[] {1, 4, 6, 9}) {
            x.edge(c, false);
            x.amount(c, 1000000);
        }
        CHECK.law(x, "F1/1 P5 J9");
        // 5 gives as much as it gets; it is PARTED, and 0, 2, 7, 8, 10, 13, to which the EDGES gave, too
        x.amount(5, 1000000);
        CHECK.due("tick() with 1000000 behind it", x.tick(), 7);
        CHECK.amountIs(x, 36, 250000);
        CHECK.due("flow(5, 1)", x.flow(5, 1), 250000);
        CHECK.law(x, "J999999");
        for (int q = 0; q < 4; q++) {
            x.amount(36 + q, 0);
        }
        CHECK.due("join(5)", x.join(5), 0);
        // now it gives 249999 by each side and gets 250000; that it would be PARTED does not help
        x.amount(5, 999999);
        CHECK.law(x, "F1/1 P5 J9");
        CHECK.refused(x, "tick() beyond", MeshWorlds.STATE, x::tick);
        CHECK.due("flow(5, 1) stays that of the latest tick", x.flow(5, 1), 250000);
        CHECK.due("mark(1, 3) stays", x.mark(1, 3), 250000);
        CHECK.due("count(0)", x.count(0), 1);
        x.edge(9, true);
        x.amount(9, 0);
        CHECK.due("count(0) goes on", x.tick() >= 0 ? x.count(0) : -1, 2);
        CHECK.due("flow(5, 1)", x.flow(5, 1), 249999);
        manySmallOnes();
    }

    /** Sixteen of side 1 around give a great cell four times as much as four great ones would. */
    private static void manySmallOnes() {
        MeshWorlds x = new MeshWorlds();
        for (int c : new int[] {4, 6}) {
            x.part(c);
            for (int q = 0; q < 4; q++) {
                x.part(16 + 4 * c + q);
            }
        }
        CHECK.law(x, "F1/1");
        for (int y = 4; y < 8; y++) {
            x.amount(x.at(3, y), 500000);
            x.amount(x.at(8, y), 500000);
        }
        CHECK.due("tick()", x.tick(), 0);
        CHECK.amountIs(x, 5, 1000000);
        x.amount(5, 0);
        for (int y = 4; y < 8; y++) {
            for (int col = 0; col < 16; col++) {
                x.amount(x.at(col, y), 0);
            }
            x.amount(x.at(3, y), 500000);
            x.amount(x.at(8, y), 500000);
        }
        x.amount(x.at(3, 4), 500004);
        CHECK.refused(x, "tick() beyond", MeshWorlds.STATE, x::tick);
        firstAndLast();
    }

    private static void firstAndLast() {
        MeshWorlds x = new MeshWorlds();
        CHECK.law(x, "F1/1");
        x.edge(1, false);
        x.edge(4, false);
        x.amount(1, 1000000);
        x.amount(4, 1000000);
        x.amount(0, 999999);
        CHECK.refused(x, "tick() with 0 beyond", MeshWorlds.STATE, x::tick);
        x.amount(0, 999998);
        CHECK.due("tick() with 0 at the end", x.tick(), 0);
        CHECK.amountIs(x, 0, 1000000);
        MeshWorlds y = new MeshWorlds();
        CHECK.law(y, "F1/1");
        y.part(15);
        y.part(79);
        y.amount(335, 999999);
        y.amount(333, 1000000);
        y.amount(334, 1000000);
        CHECK.refused(y, "tick() with 335 beyond", MeshWorlds.STATE, y::tick);
        y.amount(335, 999998);
        CHECK.due("tick() with 335 at the end", y.tick(), 0);
        CHECK.amountIs(y, 335, 1000000);
    }

    private static void flowOfTheLatestTick() {
        MeshWorlds x = new MeshWorlds();
        CHECK.due("flow(0, 1) ahead of any", x.flow(0, 1), 0);
        CHECK.law(x, "F1/2 P10");
        x.amount(0, 160);
        x.keep(0);
        CHECK.due("tick()", x.tick(), 3);
        // 0 is parted now, the flow is that of the tick; another field does not change it
        CHECK.law(x, "F1/1");
        x.amount(16, 9);
        CHECK.due("flow(0, 1)", x.flow(0, 1), 20);
        CHECK.due("flow(16, 17)", x.flow(16, 17), 0);
        x.freeze(2, false);
        CHECK.due("flow(0, 4)", x.flow(0, 4), 20);
        x.goOn(0);
        CHECK.due("flow(0, 4) behind goOn", x.flow(0, 4), 20);
    }

    private static void sumsAndTops() {
        MeshWorlds x = new MeshWorlds();
        CHECK.due("sum()", x.sum(), 0);
        CHECK.due("top()", x.top(), 0);
        for (int c = 0; c < 16; c++) {
            x.amount(c, 1000000);
        }
        CHECK.due("sum()", x.sum(), 16000000);
        x.part(0);
        CHECK.due("sum()", x.sum(), 16000000);
        CHECK.due("top()", x.top(), 1);
        x.amount(18, 1000000);
        CHECK.due("top()", x.top(), 1);
        for (int c = 1; c < 16; c++) {
            x.amount(c, 0);
        }
        CHECK.due("top()", x.top(), 18);
        x.amount(18, 0);
        x.amount(16, 0);
        x.amount(17, 0);
        x.amount(19, 0);
        CHECK.due("top() of alike ones", x.top(), 1);
    }

    private static void overs() {
        MeshWorlds x = new MeshWorlds();
        CHECK.due("over(2)", x.over(2), 0);
        CHECK.due("over(-1)", x.over(-1), 0);
        CHECK.law(x, "F1/1 O1");
        for (int c : new int[] {0, 3, 12, 15}) {
            x.edge(c, false);
            x.amount(c, 1000000);
        }
        int ticks = 40;
        for (int i = 0; i < ticks; i++) {
            CHECK.due("tick()", x.tick(), 0);
        }
        CHECK.due("over(1)", x.over(1), 4000000L * ticks);
        CHECK.due("what is in", x.sum() - 4000000L, x.over(1) - x.over(0));
        long left = x.over(0);
        x.keep(0);
        x.goOn(0);
        CHECK.due("over(0) stays behind goOn", x.over(0), left);
        CHECK.due("over(2)", x.over(2), 0);
        CHECK.due("over(MIN)", x.over(Integer.MIN_VALUE), 0);
    }
}
