/** Promises 1 and 11 to 20: cells. */
public final class CellsTest {
    private static final Check CHECK = new Check("CellsTest");

    public static void main(String[] args) {
        newObject();
        amounts();
        filling();
        telling();
        marks();
        squares();
        parting();
        joining();
        edges();
        freezing();
        seeing();
        CHECK.end();
    }

    private static void newObject() {
        MeshWorlds x = new MeshWorlds();
        int[] counts = {0, 16, 0, 0, 0, 0, 0, 0, 0};
        for (int what = 0; what <= 8; what++) {
            CHECK.due("new count(" + what + ")", x.count(what), counts[what]);
        }
        CHECK.due("new asked()", x.asked(), 0);
        CHECK.due("new finding()", x.finding(), 0);
        CHECK.fraction(x, "new", 0, 1);
        for (int c = 0; c < 16; c++) {
            int[] want = {0, 0, 4, c % 4 * 4, c / 4 * 4, 0};
            for (int what = 0; what <= 5; what++) {
                CHECK.tells(x, c, what, want[what]);
            }
        }
        for (int m = 0; m < 6; m++) {
            CHECK.due("new machine's kind", x.machine(m, 0), 0);
        }
        CHECK.finds(x, "told(16, 0)", Check.NOTHING, () -> x.told(16, 0));
    }

    private static void amounts() {
        MeshWorlds x = new MeshWorlds();
        CHECK.refused(x, "amount(-1, 0)", MeshWorlds.BAD, () -> x.amount(-1, 0));
        CHECK.refused(x, "amount(336, 0)", MeshWorlds.BAD, () -> x.amount(336, 0));
        CHECK.refused(x, "amount(0, -1)", MeshWorlds.BAD, () -> x.amount(0, -1));
        CHECK.refused(x, "amount(16, 1000001)", MeshWorlds.BAD, () -> x.amount(16, 1000001));
        CHECK.finds(x, "amount(16, 1)", Check.NOTHING, () -> x.amount(16, 1));
        CHECK.finds(x, "amount(335, 1)", Check.NOTHING, () -> x.amount(335, 1));
        CHECK.due("amount(0, 1000000)", x.amount(0, 1000000), 0);
        CHECK.due("amount(0, 0)", x.amount(0, 0), 1000000);
        CHECK.due("amount(0, 3)", x.amount(0, 3), 0);
    }

    private static void filling() {
        MeshWorlds x = new MeshWorlds();
        CHECK.refused(x, "fill(6)", MeshWorlds.BAD, () -> x.fill(6));
        CHECK.refused(x, "fill(-1)", MeshWorlds.BAD, () -> x.fill(-1));
        CHECK.finds(x, "fill(0)", Check.NOTHING, () -> x.fill(0));
        x.row(0, 17);
        x.lay(0, 0, -1);
        CHECK.finds(x, "fill(0) of 17", Check.SIZE, () -> x.fill(0));
        x.row(0, 15);
        CHECK.finds(x, "fill(0) of 15", Check.SIZE, () -> x.fill(0));
        x.row(0, 16);
        x.lay(0, 15, 1000001);
        CHECK.finds(x, "fill(0) beyond", Check.UNLIKE, () -> x.fill(0));
        x.lay(0, 15, -1);
        CHECK.finds(x, "fill(0) below", Check.UNLIKE, () -> x.fill(0));
        x.lay(0, 15, 0);
        x.lay(0, 0, -1);
        CHECK.finds(x, "fill(0) below at first", Check.UNLIKE, () -> x.fill(0));
        x.lay(0, 0, 0);
        x.lay(0, 15, -1);
        // an amount that is none counts even if its cell is not there
        x.part(15);
        CHECK.finds(x, "fill(0) below, parted", Check.UNLIKE, () -> x.fill(0));
        for (int i = 0; i < 16; i++) {
            x.lay(0, i, 100 + i);
        }
        x.edge(3, false);
        x.freeze(4, false);
        CHECK.due("fill(0)", x.fill(0), 15);
        for (int c = 0; c < 15; c++) {
            CHECK.amountIs(x, c, 100 + c);
        }
        for (int c = 76; c < 80; c++) {
            CHECK.amountIs(x, c, 0);
        }
    }

    private static void telling() {
        MeshWorlds x = new MeshWorlds();
        CHECK.refused(x, "told(-1, 0)", MeshWorlds.BAD, () -> x.told(-1, 0));
        CHECK.refused(x, "told(336, 0)", MeshWorlds.BAD, () -> x.told(336, 0));
        CHECK.refused(x, "told(0, -1)", MeshWorlds.BAD, () -> x.told(0, -1));
        CHECK.refused(x, "told(16, 6)", MeshWorlds.BAD, () -> x.told(16, 6));
        CHECK.finds(x, "told(16, 5)", Check.NOTHING, () -> x.told(16, 5));
        x.give(6, 3);
        x.amount(6, 403);
        x.part(6);
        x.part(43);
        // 43 is the last quarter of 6, at 8 and 4: so at 10 and 6
        int[][] want = {
            {40, 1, 101, 2, 8, 4, 3}, {41, 1, 101, 2, 10, 4, 3}, {42, 1, 101, 2, 8, 6, 3},
            {188, 1, 25, 1, 10, 6, 3}, {189, 1, 25, 1, 11, 6, 3},
            {190, 1, 25, 1, 10, 7, 3}, {191, 1, 25, 1, 11, 7, 3}
        };
        for (int[] cell : want) {
            for (int what = 0; what <= 5; what++) {
                CHECK.tells(x, cell[0], what, cell[what + 1]);
            }
        }
        CHECK.finds(x, "told(43, 0)", Check.NOTHING, () -> x.told(43, 0));
        CHECK.finds(x, "told(6, 0)", Check.NOTHING, () -> x.told(6, 0));
    }

    private static void marks() {
        MeshWorlds x = new MeshWorlds();
        CHECK.refused(x, "mark(-1, 1)", MeshWorlds.BAD, () -> x.mark(-1, 1));
        CHECK.refused(x, "mark(336, 1)", MeshWorlds.BAD, () -> x.mark(336, 1));
        CHECK.refused(x, "mark(0, 0)", MeshWorlds.BAD, () -> x.mark(0, 0));
        CHECK.refused(x, "mark(0, 5)", MeshWorlds.BAD, () -> x.mark(0, 5));
        CHECK.refused(x, "mark(16, -1)", MeshWorlds.BAD, () -> x.mark(16, -1));
        CHECK.finds(x, "mark(16, 1)", Check.NOTHING, () -> x.mark(16, 1));
        for (int kind = 1; kind <= 4; kind++) {
            int asks = kind;
            CHECK.finds(x, "mark(0, " + kind + ")", Check.UNLIKE, () -> x.mark(0, asks));
        }
        x.part(0);
        x.part(17);
        CHECK.due("mark(16, 1)", x.mark(16, 1), 0);
        CHECK.due("mark(19, 1)", x.mark(19, 1), 0);
        CHECK.due("mark(84, 1)", x.mark(84, 1), 17);
        CHECK.due("mark(87, 1)", x.mark(87, 1), 17);
        CHECK.finds(x, "mark(16, 2)", Check.UNLIKE, () -> x.mark(16, 2));
        x.see(16, false);
        CHECK.due("mark(16, 1) of a SEEN one", x.mark(16, 1), 0);
        CHECK.finds(x, "mark(16, 3)", Check.UNLIKE, () -> x.mark(16, 3));
        seenMark();
        edgeMark();
        frozenMark();
    }

    private static void seenMark() {
        MeshWorlds x = new MeshWorlds();
        CHECK.law(x, "F1/2");
        x.part(0);
        x.amount(16, 64);
        x.tick();
        x.see(16, false);
        CHECK.due("mark(16, 2) ahead of a tick", x.mark(16, 2), 48);
        x.amount(16, 80);
        CHECK.due("mark(16, 2) is its own now", x.mark(16, 2), 80);
        x.tick();
        CHECK.due("mark(16, 2) as the tick began", x.mark(16, 2), 80);
        x.amount(16, 5);
        CHECK.due("mark(16, 2) as the tick began", x.mark(16, 2), 80);
        x.see(16, true);
        x.see(16, false);
        CHECK.due("mark(16, 2) told anew", x.mark(16, 2), 5);
        x.amount(16, 0);
        x.amount(17, 800);
        x.tick();
        CHECK.due("mark(16, 2) that was 0", x.mark(16, 2), 0);
        x.amount(17, 0);
        x.amount(16, 5);
        // a tick that is refused leaves it
        x.tick();
        x.amount(16, 9);
        for (int c : new int[] {1, 4, 6, 9}) {
            x.edge(c, false);
            x.amount(c, 1000000);
        }
        // 5 gives 124999 by each side, and gets 125000
        x.amount(5, 999999);
        CHECK.refused(x, "tick() beyond", MeshWorlds.STATE, x::tick);
        CHECK.due("mark(16, 2) behind a refused tick", x.mark(16, 2), 5);
    }

    private static void edgeMark() {
        MeshWorlds x = new MeshWorlds();
        CHECK.law(x, "F1/2");
        x.amount(0, 320);
        x.tick();
        x.edge(1, false);
        CHECK.due("mark(1, 3) ahead of a tick", x.mark(1, 3), 0);
        x.amount(0, 320);
        x.tick();
        // 320 by 2 by 4 from 0; none from 2, 5 but what they got: 40 by 8 each at most
        CHECK.due("mark(1, 3)", x.mark(1, 3), 40);
        x.edge(1, true);
        x.edge(1, false);
        CHECK.due("mark(1, 3) told anew", x.mark(1, 3), 0);
    }

    private static void frozenMark() {
        MeshWorlds x = new MeshWorlds();
        x.freeze(2, false);
        CHECK.due("mark(2, 4)", x.mark(2, 4), 0);
        x.tick();
        x.tick();
        CHECK.due("mark(2, 4)", x.mark(2, 4), 0);
        x.freeze(2, true);
        x.freeze(2, false);
        CHECK.due("mark(2, 4) told anew", x.mark(2, 4), 2);
    }

    private static void squares() {
        MeshWorlds x = new MeshWorlds();
        int[][] bad = {{-1, 0}, {0, -1}, {16, 0}, {0, 16}, {Integer.MAX_VALUE, 0}, {0, Integer.MIN_VALUE}};
        for (int[] square : bad) {
            CHECK.refused(x, "at beyond", MeshWorlds.BAD, () -> x.at(square[0], square[1]));
        }
        for (int y = 0; y < 16; y++) {
            for (int col = 0; col < 16; col++) {
                CHECK.due("at(" + col + ", " + y + ")", x.at(col, y), y / 4 * 4 + col / 4);
            }
        }
        x.part(9);
        x.part(54);
        // 9 lies at 4 and 8; 54 is its lower left quarter
        CHECK.due("at(4, 8)", x.at(4, 8), 52);
        CHECK.due("at(7, 9)", x.at(7, 9), 53);
        CHECK.due("at(6, 10)", x.at(6, 10), 55);
        CHECK.due("at(4, 10)", x.at(4, 10), 232);
        CHECK.due("at(5, 10)", x.at(5, 10), 233);
        CHECK.due("at(4, 11)", x.at(4, 11), 234);
        CHECK.due("at(5, 11)", x.at(5, 11), 235);
        x.join(54);
        CHECK.due("at(5, 11)", x.at(5, 11), 54);
        x.join(9);
        CHECK.due("at(5, 11)", x.at(5, 11), 9);
    }

    private static void parting() {
        MeshWorlds x = new MeshWorlds();
        CHECK.refused(x, "part(-1)", MeshWorlds.BAD, () -> x.part(-1));
        CHECK.refused(x, "part(336)", MeshWorlds.BAD, () -> x.part(336));
        CHECK.finds(x, "part(16)", Check.NOTHING, () -> x.part(16));
        for (int rest = 0; rest < 4; rest++) {
            x.amount(rest, 400 + rest);
            CHECK.due("part(" + rest + ")", x.part(rest), 16 + 4 * rest);
            for (int q = 0; q < 4; q++) {
                CHECK.amountIs(x, 16 + 4 * rest + q, q < rest ? 101 : 100);
            }
        }
        CHECK.finds(x, "part(0) again", Check.NOTHING, () -> x.part(0));
        CHECK.due("part(31)", x.part(31), 140);
        CHECK.finds(x, "part(140)", Check.UNLIKE, () -> x.part(140));
        x.see(16, false);
        x.edge(4, false);
        x.freeze(5, false);
        CHECK.finds(x, "part of a SEEN one", Check.UNLIKE, () -> x.part(16));
        CHECK.finds(x, "part of an EDGE", Check.UNLIKE, () -> x.part(4));
        CHECK.finds(x, "part of a FROZEN one", Check.UNLIKE, () -> x.part(5));
        CHECK.due("part(15)", x.part(15), 76);
        CHECK.due("part(79)", x.part(79), 332);
        CHECK.due("count(1)", x.count(1), 16 + 7 * 3);
        CHECK.due("sum()", x.sum(), 1606);
    }

    private static void joining() {
        MeshWorlds x = new MeshWorlds();
        CHECK.refused(x, "join(-1)", MeshWorlds.BAD, () -> x.join(-1));
        CHECK.refused(x, "join(80)", MeshWorlds.BAD, () -> x.join(80));
        CHECK.finds(x, "join(0)", Check.NOTHING, () -> x.join(0));
        CHECK.finds(x, "join(79)", Check.NOTHING, () -> x.join(79));
        x.part(0);
        for (int q = 0; q < 4; q++) {
            x.part(16 + q);
            CHECK.finds(x, "join(0) of three", Check.NOTHING, () -> x.join(0));
            x.join(16 + q);
            x.see(16 + q, false);
            CHECK.finds(x, "join(0) with a SEEN one", Check.UNLIKE, () -> x.join(0));
            x.see(16 + q, true);
        }
        x.part(18);
        for (int q = 0; q < 4; q++) {
            x.amount(88 + q, 250000);
            x.give(88 + q, q + 1);
        }
        CHECK.due("join(18)", x.join(18), 1000000);
        CHECK.tells(x, 18, 0, 1);
        CHECK.tells(x, 18, 1, 1000000);
        CHECK.tells(x, 18, 5, 1);
        x.amount(19, 1);
        x.see(17, false);
        CHECK.finds(x, "join(0) with a SEEN one", Check.UNLIKE, () -> x.join(0));
        x.see(17, true);
        CHECK.finds(x, "join(0) beyond", Check.BEYOND, () -> x.join(0));
        x.amount(19, 0);
        x.give(16, 5);
        CHECK.due("join(0)", x.join(0), 1000000);
        CHECK.tells(x, 0, 0, 0);
        CHECK.tells(x, 0, 5, 5);
        CHECK.due("count(1)", x.count(1), 16);
    }

    private static void edges() {
        MeshWorlds x = new MeshWorlds();
        CHECK.refused(x, "edge(-1, false)", MeshWorlds.BAD, () -> x.edge(-1, false));
        CHECK.refused(x, "edge(336, true)", MeshWorlds.BAD, () -> x.edge(336, true));
        CHECK.finds(x, "edge(16, false)", Check.NOTHING, () -> x.edge(16, false));
        CHECK.finds(x, "edge(0, true)", Check.UNLIKE, () -> x.edge(0, true));
        CHECK.due("edge(0, false)", x.edge(0, false), 1);
        CHECK.tells(x, 0, 0, 3);
        CHECK.finds(x, "edge(0, false) again", Check.UNLIKE, () -> x.edge(0, false));
        CHECK.finds(x, "freeze(0, false) of an EDGE", Check.UNLIKE, () -> x.freeze(0, false));
        CHECK.finds(x, "freeze(0, true) of an EDGE", Check.UNLIKE, () -> x.freeze(0, true));
        CHECK.due("edge(0, true)", x.edge(0, true), 1);
        CHECK.tells(x, 0, 0, 0);
        x.part(0);
        CHECK.finds(x, "edge(16, false) of a FINE one", Check.UNLIKE, () -> x.edge(16, false));
    }

    private static void freezing() {
        MeshWorlds x = new MeshWorlds();
        CHECK.refused(x, "freeze(-1, false)", MeshWorlds.BAD, () -> x.freeze(-1, false));
        CHECK.refused(x, "freeze(336, true)", MeshWorlds.BAD, () -> x.freeze(336, true));
        CHECK.finds(x, "freeze(16, false)", Check.NOTHING, () -> x.freeze(16, false));
        CHECK.finds(x, "freeze(0, true)", Check.UNLIKE, () -> x.freeze(0, true));
        CHECK.due("freeze(0, false)", x.freeze(0, false), 1);
        CHECK.tells(x, 0, 0, 4);
        CHECK.finds(x, "freeze(0, false) again", Check.UNLIKE, () -> x.freeze(0, false));
        CHECK.finds(x, "edge(0, false) of a FROZEN one", Check.UNLIKE, () -> x.edge(0, false));
        CHECK.due("freeze(0, true)", x.freeze(0, true), 1);
        CHECK.tells(x, 0, 0, 0);
        x.part(0);
        CHECK.finds(x, "freeze(16, false) of a FINE one", Check.UNLIKE, () -> x.freeze(16, false));
    }

    private static void seeing() {
        MeshWorlds x = new MeshWorlds();
        CHECK.refused(x, "see(-1, false)", MeshWorlds.BAD, () -> x.see(-1, false));
        CHECK.refused(x, "see(336, true)", MeshWorlds.BAD, () -> x.see(336, true));
        CHECK.finds(x, "see(16, false)", Check.NOTHING, () -> x.see(16, false));
        CHECK.finds(x, "see(0, false)", Check.UNLIKE, () -> x.see(0, false));
        x.part(0);
        CHECK.finds(x, "see(16, true)", Check.UNLIKE, () -> x.see(16, true));
        CHECK.due("see(16, false)", x.see(16, false), 1);
        CHECK.tells(x, 16, 0, 2);
        CHECK.finds(x, "see(16, false) again", Check.UNLIKE, () -> x.see(16, false));
        CHECK.due("count(2)", x.count(2), 4);
        CHECK.due("see(16, true)", x.see(16, true), 1);
        CHECK.tells(x, 16, 0, 1);
    }
}
