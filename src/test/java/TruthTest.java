/** Promises 42 to 44: shares, and how far whole numbers can be off. */
public final class TruthTest {
    private static final Check CHECK = new Check("TruthTest");

    public static void main(String[] args) {
        refusals();
        shares();
        sharesWithKinds();
        greatestNumbers();
        mosts();
        offs();
        CHECK.end();
    }

    private static void refusals() {
        MeshWorlds x = new MeshWorlds();
        int[][] bad = {{-1, 0, 0}, {336, 0, 0}, {0, -1, 0}, {0, 336, 0}, {0, 0, -1}, {0, 0, 4}, {16, 0, 4}};
        for (int[] b : bad) {
            CHECK.refused(x, "share bad", MeshWorlds.BAD, () -> x.share(b[0], b[1], b[2]));
        }
        CHECK.finds(x, "share(16, 0, 1)", Check.NOTHING, () -> x.share(16, 0, 1));
        CHECK.finds(x, "share(0, 16, 1)", Check.NOTHING, () -> x.share(0, 16, 1));
        CHECK.refused(x, "most(-1, 0)", MeshWorlds.BAD, () -> x.most(-1, 0));
        CHECK.refused(x, "most(336, 0)", MeshWorlds.BAD, () -> x.most(336, 0));
        CHECK.refused(x, "most(0, -1)", MeshWorlds.BAD, () -> x.most(0, -1));
        CHECK.refused(x, "most(16, 4)", MeshWorlds.BAD, () -> x.most(16, 4));
        CHECK.finds(x, "most(16, 3)", Check.NOTHING, () -> x.most(16, 3));
        CHECK.refused(x, "off(-1, 0)", MeshWorlds.BAD, () -> x.off(-1, 0));
        CHECK.refused(x, "off(336, 0)", MeshWorlds.BAD, () -> x.off(336, 0));
        CHECK.refused(x, "off(0, -1)", MeshWorlds.BAD, () -> x.off(0, -1));
        CHECK.refused(x, "off(16, 21)", MeshWorlds.BAD, () -> x.off(16, 21));
        CHECK.finds(x, "off(16, 20)", Check.NOTHING, () -> x.off(16, 20));
    }

    private static void shareIs(MeshWorlds x, int from, int to, int t, long above, long below) {
        String call = "share(" + from + ", " + to + ", " + t + ")";
        CHECK.due(call, x.share(from, to, t), 1);
        CHECK.fraction(x, call, above, below);
    }

    private static void shares() {
        MeshWorlds x = new MeshWorlds();
        shareIs(x, 3, 3, 0, 1, 1);
        shareIs(x, 3, 2, 0, 0, 1);
        shareIs(x, 3, 3, 3, 1, 1);
        CHECK.law(x, "F1/2");
        shareIs(x, 5, 6, 1, 1, 8);
        shareIs(x, 5, 5, 1, 1, 2);
        // a corner with a shut rim gives two parts of eight
        shareIs(x, 0, 0, 1, 3, 4);
        shareIs(x, 0, 1, 1, 1, 8);
        shareIs(x, 0, 5, 1, 0, 1);
        shareIs(x, 0, 5, 2, 1, 32);
        shareIs(x, 5, 5, 2, 5, 16);
        CHECK.law(x, "F1/2 O1");
        shareIs(x, 0, 0, 1, 1, 2);
        // from and to are not alike once sides differ
        x.part(1);
        shareIs(x, 0, 20, 1, 1, 16);
        shareIs(x, 20, 0, 1, 1, 8);
    }

    private static void sharesWithKinds() {
        MeshWorlds x = new MeshWorlds();
        CHECK.law(x, "F1/1");
        x.edge(1, false);
        x.freeze(4, false);
        shareIs(x, 0, 1, 1, 1, 4);
        shareIs(x, 1, 0, 1, 0, 1);
        shareIs(x, 1, 1, 3, 1, 1);
        shareIs(x, 0, 0, 1, 3, 4);
        shareIs(x, 0, 1, 2, 7, 16);
        shareIs(x, 4, 4, 3, 1, 1);
        shareIs(x, 0, 4, 3, 0, 1);
        shareIs(x, 4, 0, 3, 0, 1);
        shareIs(x, 0, 2, 3, 0, 1);
    }

    private static void greatestNumbers() {
        MeshWorlds x = new MeshWorlds();
        CHECK.law(x, "F98/99");
        shareIs(x, 5, 5, 1, 1, 99);
        shareIs(x, 5, 6, 1, 49, 198);
        // (1 - 98/99 of two sides of four) to the third and the ways back
        x.freeze(1, false);
        shareIs(x, 0, 0, 1, 149, 198);
        x.freeze(8, false);
        x.freeze(5, false);
        x.freeze(4, false);
        shareIs(x, 0, 0, 3, 1, 1);
    }

    private static void mosts() {
        MeshWorlds x = new MeshWorlds();
        CHECK.due("most(7, 3) with nothing given", x.most(7, 3), 7);
        CHECK.fraction(x, "most(7, 3)", 1, 1);
        CHECK.law(x, "F1/1");
        CHECK.due("most(5, 1): the first of alike ones", x.most(5, 1), 1);
        CHECK.fraction(x, "most(5, 1)", 1, 4);
        CHECK.due("most(0, 1)", x.most(0, 1), 0);
        CHECK.fraction(x, "most(0, 1)", 1, 2);
        // all around are EDGES, which give nothing: no cell has a share, and the first counts
        for (int c : new int[] {1, 4, 6, 9}) {
            x.edge(c, false);
        }
        CHECK.due("most(5, 2)", x.most(5, 2), 0);
        CHECK.fraction(x, "most(5, 2)", 0, 1);
        x.part(0);
        CHECK.due("most(5, 2) without 0", x.most(5, 2), 1);
        CHECK.due("most(5, 0)", x.most(5, 0), 5);
        CHECK.fraction(x, "most(5, 0)", 1, 1);
    }

    private static void offs() {
        MeshWorlds x = new MeshWorlds();
        CHECK.due("off(5, 20)", x.off(5, 20), 80);
        CHECK.due("off(5, 0)", x.off(5, 0), 0);
        CHECK.due("off(0, 1)", x.off(0, 1), 2);
        CHECK.law(x, "O1");
        CHECK.due("off(0, 1) with an open rim", x.off(0, 1), 3);
        CHECK.due("off(5, 1) away from the rim", x.off(5, 1), 4);
        x.freeze(1, false);
        x.edge(4, false);
        CHECK.due("off(5, 1) beside a FROZEN one and an EDGE", x.off(5, 1), 3);
        CHECK.due("off(1, 7) of a FROZEN one", x.off(1, 7), 0);
        CHECK.due("off(4, 7) of an EDGE", x.off(4, 7), 28);
        x.part(6);
        x.part(40);
        CHECK.due("off(5, 1) beside smaller ones", x.off(5, 1), 5);
        CHECK.due("off(176, 2)", x.off(176, 2), 8);
        x.part(0);
        x.part(16);
        CHECK.due("off(81, 1) with one side at the rim", x.off(81, 1), 4);
    }
}
