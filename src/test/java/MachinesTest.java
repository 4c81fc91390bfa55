/** Promises 26 to 34: machines, the curve, deals, runs. */
public final class MachinesTest {
    private static final Check CHECK = new Check("MachinesTest");

    public static void main(String[] args) {
        kinds();
        giving();
        bearing();
        works();
        cutting();
        curves();
        deals();
        dealsWithFrozenAndSlow();
        runs();
        CHECK.end();
    }

    private static void kinds() {
        MeshWorlds x = new MeshWorlds();
        CHECK.refused(x, "machine(-1, 0)", MeshWorlds.BAD, () -> x.machine(-1, 0));
        CHECK.refused(x, "machine(6, 0)", MeshWorlds.BAD, () -> x.machine(6, 0));
        CHECK.refused(x, "machine(0, -1)", MeshWorlds.BAD, () -> x.machine(0, -1));
        CHECK.refused(x, "machine(0, 5)", MeshWorlds.BAD, () -> x.machine(0, 5));
        CHECK.refused(x, "machine(0, 4)", MeshWorlds.STATE, () -> x.machine(0, 4));
        for (int kind = 1; kind <= 3; kind++) {
            CHECK.due("machine(0, " + kind + ")", x.machine(0, kind), kind - 1);
        }
        CHECK.due("machine(5, 4)", x.machine(5, 4), 0);
        CHECK.due("machine(5, 4) again", x.machine(5, 4), 4);
        CHECK.due("count(5)", x.count(5), 1);
        CHECK.due("machine(5, 1)", x.machine(5, 1), 4);
        CHECK.due("count(5)", x.count(5), 0);
        x.give(7, 5);
        CHECK.refused(x, "machine(5, 4) with a CELL", MeshWorlds.STATE, () -> x.machine(5, 4));
    }

    private static void giving() {
        MeshWorlds x = new MeshWorlds();
        x.machine(3, 4);
        CHECK.refused(x, "give(-1, 0)", MeshWorlds.BAD, () -> x.give(-1, 0));
        CHECK.refused(x, "give(336, 0)", MeshWorlds.BAD, () -> x.give(336, 0));
        CHECK.refused(x, "give(0, -1)", MeshWorlds.BAD, () -> x.give(0, -1));
        CHECK.refused(x, "give(16, 6)", MeshWorlds.BAD, () -> x.give(16, 6));
        CHECK.finds(x, "give(16, 3)", Check.NOTHING, () -> x.give(16, 3));
        CHECK.refused(x, "give(0, 3)", MeshWorlds.STATE, () -> x.give(0, 3));
        CHECK.due("give(0, 2)", x.give(0, 2), 0);
        CHECK.due("give(0, 5)", x.give(0, 5), 2);
        CHECK.due("part(0)", x.part(0), 16);
        CHECK.tells(x, 19, 5, 5);
    }

    private static void bearing() {
        MeshWorlds x = new MeshWorlds();
        CHECK.refused(x, "bears(-1, 1)", MeshWorlds.BAD, () -> x.bears(-1, 1));
        CHECK.refused(x, "bears(6, 1)", MeshWorlds.BAD, () -> x.bears(6, 1));
        CHECK.refused(x, "bears(0, 0)", MeshWorlds.BAD, () -> x.bears(0, 0));
        CHECK.refused(x, "bears(0, 5)", MeshWorlds.BAD, () -> x.bears(0, 5));
        for (int kind = 1; kind <= 4; kind++) {
            int asks = kind;
            CHECK.finds(x, "bears(0, " + kind + ")", Check.UNLIKE, () -> x.bears(0, asks));
        }
        x.freeze(3, false);
        x.amount(3, 900);
        x.amount(2, 800);
        x.machine(0, 1);
        CHECK.due("bears(0, 1)", x.bears(0, 1), 30);
        CHECK.finds(x, "bears(0, 2) of a SLOW one", Check.UNLIKE, () -> x.bears(0, 2));
        x.machine(0, 2);
        CHECK.due("bears(0, 2)", x.bears(0, 2), 16);
        CHECK.finds(x, "bears(0, 3) of a FLAKY one", Check.UNLIKE, () -> x.bears(0, 3));
        x.machine(0, 3);
        CHECK.due("bears(0, 2) of a WRONG one", x.bears(0, 2), 16);
        CHECK.due("bears(0, 3)", x.bears(0, 3), 900);
        x.give(3, 1);
        CHECK.due("bears(0, 3)", x.bears(0, 3), 800);
        x.amount(0, 801);
        CHECK.due("bears(0, 3) of the first cell", x.bears(0, 3), 801);
        x.part(15);
        x.part(79);
        x.amount(335, 802);
        CHECK.due("bears(0, 3) of the last cell", x.bears(0, 3), 802);
        x.join(79);
        x.join(15);
        x.machine(2, 3);
        CHECK.due("bears(2, 3) without", x.bears(2, 3), 0);
        x.machine(3, 4);
        x.machine(5, 4);
        CHECK.due("bears(3, 4)", x.bears(3, 4), 0);
        CHECK.due("bears(5, 4)", x.bears(5, 4), 1);
        x.machine(4, 4);
        CHECK.due("bears(5, 4)", x.bears(5, 4), 2);
        CHECK.finds(x, "bears(5, 1) of a SPARE one", Check.UNLIKE, () -> x.bears(5, 1));
    }

    private static void works() {
        MeshWorlds x = new MeshWorlds();
        CHECK.refused(x, "work(-1)", MeshWorlds.BAD, () -> x.work(-1));
        CHECK.refused(x, "work(6)", MeshWorlds.BAD, () -> x.work(6));
        CHECK.due("work(0)", x.work(0), 16);
        CHECK.due("work(5)", x.work(5), 0);
        x.part(0);
        x.freeze(1, false);
        x.edge(2, false);
        x.give(3, 1);
        CHECK.due("work(0)", x.work(0), 17);
        x.machine(0, 1);
        x.machine(1, 2);
        CHECK.due("work(0)", x.work(0), 34);
        CHECK.due("work(1)", x.work(1), 1);
    }

    private static void cutting() {
        MeshWorlds x = new MeshWorlds();
        CHECK.due("cuts()", x.cuts(), 0);
        x.give(5, 1);
        CHECK.due("cuts()", x.cuts(), 16);
        x.give(6, 2);
        CHECK.due("cuts()", x.cuts(), 28);
        x.give(6, 1);
        CHECK.due("cuts()", x.cuts(), 24);
        x.part(0);
        x.give(16, 3);
        CHECK.due("cuts() in a corner", x.cuts(), 28);
        x.freeze(5, false);
        CHECK.due("cuts()", x.cuts(), 28);
    }

    private static void curves() {
        MeshWorlds x = new MeshWorlds();
        CHECK.refused(x, "curve(-1)", MeshWorlds.BAD, () -> x.curve(-1));
        int[] order = {0, 1, 4, 5, 2, 3, 6, 7, 8, 9, 12, 13, 10, 11, 14, 15};
        for (int i = 0; i < 16; i++) {
            CHECK.due("curve(" + i + ")", x.curve(i), order[i]);
        }
        CHECK.due("curve(16)", x.curve(16), MeshWorlds.NONE);
        CHECK.due("curve(MAX)", x.curve(Integer.MAX_VALUE), MeshWorlds.NONE);
        x.part(4);
        x.part(33);
        int[] parted = {0, 1, 32, 148, 149, 150, 151, 34, 35, 5, 2};
        for (int i = 0; i < parted.length; i++) {
            CHECK.due("curve(" + i + ") parted", x.curve(i), parted[i]);
        }
        CHECK.due("curve(21)", x.curve(21), 15);
        CHECK.due("curve(22)", x.curve(22), MeshWorlds.NONE);
        x.join(33);
        x.join(4);
        CHECK.due("curve(2) joined", x.curve(2), 4);
        CHECK.due("curve(16) joined", x.curve(16), MeshWorlds.NONE);
    }

    private static void deals() {
        MeshWorlds x = new MeshWorlds();
        CHECK.refused(x, "deal(0)", MeshWorlds.BAD, () -> x.deal(0));
        CHECK.refused(x, "deal(-1)", MeshWorlds.BAD, () -> x.deal(-1));
        CHECK.refused(x, "deal(64)", MeshWorlds.BAD, () -> x.deal(64));
        CHECK.refused(x, "deal(65)", MeshWorlds.BAD, () -> x.deal(65));
        x.machine(2, 4);
        CHECK.refused(x, "deal(7)", MeshWorlds.STATE, () -> x.deal(7));
        CHECK.due("deal(3)", x.deal(3), 8);
        machinesAre(x, 8, 8);
        x.machine(2, 0);
        // 16 to three: the first has the most, then the second
        CHECK.due("deal(7)", x.deal(7), 6);
        machinesAre(x, 6, 6, 4);
        CHECK.due("curve(5) given", x.told(x.curve(5), 5), 1);
        CHECK.due("to", x.asked(), 0);
        CHECK.due("curve(6) given", x.told(x.curve(6), 5), 1);
        CHECK.due("to", x.asked(), 1);
        CHECK.due("deal(63)", x.deal(63), 3);
        machinesAre(x, 3, 3, 3, 3, 3, 1);
        CHECK.due("deal(32)", x.deal(32), 16);
        machinesAre(x, 0, 0, 0, 0, 0, 16);
        CHECK.due("deal(42)", x.deal(42), 6);
        machinesAre(x, 0, 6, 0, 6, 0, 4);
    }

    private static void machinesAre(MeshWorlds x, int... cells) {
        int[] has = new int[6];
        for (int i = 0; i < x.count(1); i++) {
            x.told(x.curve(i), 5);
            has[x.asked()]++;
        }
        for (int m = 0; m < 6; m++) {
            CHECK.due("cells of machine " + m, has[m], m < cells.length ? cells[m] : 0);
        }
    }

    private static void dealsWithFrozenAndSlow() {
        MeshWorlds x = new MeshWorlds();
        x.machine(0, 1);
        // a SLOW one takes half as many
        CHECK.due("deal(3)", x.deal(3), 11);
        machinesAre(x, 5, 11);
        x.machine(1, 1);
        CHECK.due("deal(3)", x.deal(3), 16);
        machinesAre(x, 8, 8);
        x.machine(0, 0);
        x.machine(1, 0);
        // FROZEN cells behind the last that fits come along
        for (int c : new int[] {2, 3, 6, 7}) {
            x.freeze(c, false);
        }
        CHECK.due("deal(7)", x.deal(7), 4);
        machinesAre(x, 8, 4, 4);
        for (int c = 0; c < 16; c++) {
            x.freeze(c, false);
        }
        CHECK.due("deal(6) of none to work", x.deal(6), 0);
        machinesAre(x, 0, 16);
        // one cell works: a SLOW one ahead could only make it worse
        x.freeze(0, true);
        x.machine(1, 1);
        CHECK.due("deal(6)", x.deal(6), 1);
        machinesAre(x, 0, 0, 16);
        x.freeze(0, false);
        x.freeze(5, true);
        CHECK.due("deal(6)", x.deal(6), 1);
        machinesAre(x, 0, 3, 13);
    }

    private static void runs() {
        MeshWorlds x = new MeshWorlds();
        for (int m = 0; m < 6; m++) {
            CHECK.due("ran(" + m + ", 0) before", x.ran(m, 0), 0);
            CHECK.due("ran(" + m + ", 1) before", x.ran(m, 1), MeshWorlds.NONE);
        }
        CHECK.refused(x, "run(0, 0)", MeshWorlds.BAD, () -> x.run(0, 0));
        CHECK.refused(x, "run(21, 0)", MeshWorlds.BAD, () -> x.run(21, 0));
        CHECK.refused(x, "run(1, -1)", MeshWorlds.BAD, () -> x.run(1, -1));
        CHECK.refused(x, "run(1, 51)", MeshWorlds.BAD, () -> x.run(1, 51));
        CHECK.refused(x, "ran(-1, 0)", MeshWorlds.BAD, () -> x.ran(-1, 0));
        CHECK.refused(x, "ran(6, 0)", MeshWorlds.BAD, () -> x.ran(6, 0));
        CHECK.refused(x, "ran(0, -1)", MeshWorlds.BAD, () -> x.ran(0, -1));
        CHECK.refused(x, "ran(0, 2)", MeshWorlds.BAD, () -> x.ran(0, 2));
        CHECK.due("run(20, 50) alone", x.run(20, 50), 320);
        CHECK.due("ran(0, 1)", x.ran(0, 1), 0);
        CHECK.due("ran(5, 0) without cells", x.ran(5, 0), 0);
        CHECK.due("ran(5, 1) without cells", x.ran(5, 1), 5);
        CHECK.due("run does no tick", x.count(0), 0);
        // columns: 0 | 1 | 2 2, of 4, 4 and 8 cells; 0 and 2 are not beside each other
        for (int y = 0; y < 4; y++) {
            x.give(4 * y + 1, 1);
            x.give(4 * y + 2, 2);
            x.give(4 * y + 3, 2);
        }
        CHECK.due("run(1, 3)", x.run(1, 3), 11);
        ranAre(x, new int[] {7, 7, 11}, new int[] {1, 0, 1});
        CHECK.due("run(2, 3)", x.run(2, 3), 19);
        ranAre(x, new int[] {14, 18, 19}, new int[] {1, 2, 2});
        CHECK.due("run(2, 0)", x.run(2, 0), 16);
        ranAre(x, new int[] {8, 12, 16}, new int[] {0, 2, 2});
        // wait of alike ones: itself first, then by numbers
        CHECK.due("run(1, 0)", x.run(1, 0), 8);
        ranAre(x, new int[] {4, 4, 8}, new int[] {0, 1, 2});
        // FROZEN cells need no work, but lie beside
        for (int y = 0; y < 4; y++) {
            x.freeze(4 * y + 1, false);
        }
        CHECK.due("run(1, 3)", x.run(1, 3), 11);
        ranAre(x, new int[] {7, 3, 11}, new int[] {1, 0, 1});
        for (int c = 0; c < 16; c++) {
            x.freeze(c, false);
        }
        CHECK.due("run(20, 0) of none to work", x.run(20, 0), 0);
    }

    private static void ranAre(MeshWorlds x, int[] ends, int[] waited) {
        for (int m = 0; m < ends.length; m++) {
            CHECK.due("ran(" + m + ", 0)", x.ran(m, 0), ends[m]);
            CHECK.due("ran(" + m + ", 1)", x.ran(m, 1), waited[m]);
        }
    }
}
