/** Promises 42 to 44, sentence by sentence: shares, and how far whole numbers can be off. */
final class TruthBounds {
    private static final String ORDER = "the first of these that fits, in this order";

    private TruthBounds() {
    }

    static void all() {
        share();
        shareOfKinds();
        shareRefused();
        most();
        mostRefused();
        off();
        offRefused();
    }

    private static Run shareIs(Run run, int from, int to, int t, long above, long below) {
        return run.due("share(" + from + ", " + to + ", " + t + ")", 1).fraction(above, below);
    }

    private static Run share(String said, String law) {
        return Run.test(42, said).law(law);
    }

    private static void share() {
        String said = "of one unit there now how much would be here, if FLOWS were fractions (not cut)";
        // none gives: all stays
        Run still = Run.test(42, said);
        for (int t = 0; t <= 3; t++) {
            shareIs(still, 0, 0, t, 1, 1);
            shareIs(still, 15, 14, t, 0, 1);
        }
        shareIs(share(said, "F0/99"), 5, 5, 3, 1, 1);
        Run all = share(said, "F1/1");
        shareIs(all, 5, 5, 0, 1, 1);
        shareIs(all, 5, 6, 0, 0, 1);
        shareIs(all, 5, 5, 1, 0, 1);
        shareIs(all, 5, 6, 1, 1, 4);
        shareIs(all, 5, 10, 1, 0, 1);
        shareIs(all, 5, 10, 2, 1, 8);
        shareIs(all, 0, 15, 3, 0, 1);
        shareIs(all, 0, 0, 1, 1, 2);
        shareIs(all, 0, 1, 1, 1, 4);
        // the greatest lower numbers
        Run odd = share(said, "F98/99");
        shareIs(odd, 5, 5, 3, 13315, 352836);
        shareIs(odd, 5, 6, 3, 353143, 2587464);
        shareIs(odd, 0, 0, 3, 100241, 352836);
        shareIs(odd, 0, 3, 3, 117649, 7762392);
        shareIs(odd, 0, 15, 3, 0, 1);
        // what there is does not count, nor is it changed
        Run.test(42, said).law("F1/1 P1 J9").make("amount(5, 1000000)", "part(0)").due("share(5, 6, 3)", 1)
                .due("count(1)", 19).amountIs(5, 1000000).due("count(0)", 0);
        // by sides: 97 by 99, an open rim, and CELLS of all sides
        Run small = share(said, "F97/99 O1").make("part(0)", "part(16)");
        shareIs(small, 80, 80, 3, 2569, 352836);
        shareIs(small, 80, 81, 3, 2750435, 41399424);
        shareIs(small, 1, 17, 3, 4807805, 124198272);
        shareIs(small, 83, 17, 2, 10961, 156816);
        shareIs(small, 80, 1, 3, 912673, 62099136);
        Run.test(42, "SHARE of a CELL in another one after t, told by upper(), lower(): 1").law("F1/2")
                .make("part(15)", "part(79)").due("share(335, 334, 1)", 1).fraction(1, 8).due("share(14, 78, 1)", 1)
                .fraction(1, 16).due("share(78, 14, 1)", 1).fraction(1, 8);
    }

    private static void shareOfKinds() {
        Run edge = share("(an EDGE gives nothing; what comes to it stays there", "F1/1")
                .make("edge(1, false)", "amount(1, 1000)");
        shareIs(edge, 1, 1, 3, 1, 1);
        shareIs(edge, 1, 0, 3, 0, 1);
        shareIs(edge, 0, 1, 1, 1, 4);
        // two ways round through 4 stay as they are: a half stays in the corner
        shareIs(edge, 0, 1, 2, 3, 8);
        shareIs(edge, 0, 2, 2, 0, 1);
        Run frozen = share("(FROZEN: none, to or from.)", "F1/1 O1").make("freeze(1, false)");
        shareIs(frozen, 1, 1, 3, 1, 1);
        shareIs(frozen, 1, 0, 3, 0, 1);
        shareIs(frozen, 0, 1, 3, 0, 1);
        shareIs(frozen, 0, 0, 1, 1, 4);
        shareIs(frozen, 5, 5, 1, 1, 4);
        Run open = share("what leaves over an open rim is gone)", "F1/1 O1");
        shareIs(open, 0, 0, 1, 0, 1);
        shareIs(open, 0, 1, 1, 1, 4);
        shareIs(open, 0, 0, 2, 1, 8);
        shareIs(open, 0, 12, 1, 0, 1);
        shareIs(open, 0, 3, 1, 0, 1);
        Run atRim = share("(an EDGE gives nothing; what comes to it stays there", "F1/1 O1").make("edge(0, false)");
        shareIs(atRim, 0, 0, 3, 1, 1);
        shareIs(atRim, 1, 0, 1, 1, 4);
        Run.test(42, "(not cut), CELLS stay as they are").law("F1/1 P1").make("amount(5, 3)").due("share(5, 6, 1)", 1)
                .fraction(1, 4);
    }

    private static void shareRefused() {
        Run.test(42, "after t TICKS (0 .. 3)").due("share(0, 0, 0)", 1).due("share(0, 0, 3)", 1)
                .bad("share(0, 0, -1)", "share(0, 0, 4)", "share(0, 0, MIN)", "share(0, 0, MAX)");
        Run.test(42, "BAD").due("share(0, 15, 1)", 1).due("share(15, 0, 1)", 1)
                .bad("share(-1, 0, 1)", "share(336, 0, 1)", "share(0, -1, 1)", "share(0, 336, 1)")
                .bad("share(MIN, 0, 1)", "share(0, MAX, 1)");
        Run.test(42, ORDER).bad("share(16, 0, 4)", "share(0, 16, -1)", "share(16, 336, 1)", "share(-1, 16, 1)");
        Run.test(42, "NOTHING: either").make("keeping(2, 2, 1)")
                .finds(Run.NOTHING, "share(16, 0, 1)", "share(0, 16, 1)", "share(335, 335, 0)", "share(80, 79, 3)")
                .fraction(7, 2).make("part(3)").finds(Run.NOTHING, "share(3, 0, 1)", "share(0, 3, 1)", "share(3, 3, 0)")
                .due("share(28, 0, 1)", 1);
    }

    private static Run mostIs(Run run, int to, int t, int from, long above, long below) {
        return run.due("most(" + to + ", " + t + ")", from).fraction(above, below);
    }

    private static void most() {
        String said = "MOST for a CELL after t; its SHARE told by upper(), lower()";
        Run still = Run.test(43, said);
        for (int t = 0; t <= 3; t++) {
            mostIs(still, 0, t, 0, 1, 1);
            mostIs(still, 15, t, 15, 1, 1);
        }
        Run half = Run.test(43, said).law("F1/2");
        mostIs(half, 5, 3, 5, 57, 256);
        mostIs(half, 0, 3, 0, 125, 256);
        mostIs(half, 15, 2, 15, 19, 32);
        mostIs(half, 10, 2, 10, 5, 16);
        String first = "MOST: the CELL with the greatest SHARE; the first of alike ones";
        mostIs(Run.test(43, first).law("F1/1"), 5, 1, 1, 1, 4);
        Run corner = Run.test(43, first).law("F1/1 O1").make("part(15)", "part(79)");
        mostIs(corner, 335, 0, 335, 1, 1);
        mostIs(corner, 335, 1, 333, 1, 4);
        mostIs(corner, 335, 2, 332, 1, 8);
        mostIs(corner, 335, 3, 333, 9, 128);
        mostIs(corner, 78, 3, 332, 3, 32);
        // no CELL has a share: the first that is there counts, with 0 by 1
        Run none = Run.test(43, first).law("F1/1")
                .make("edge(1, false)", "edge(4, false)", "edge(6, false)", "edge(9, false)");
        mostIs(none, 5, 2, 0, 0, 1);
        mostIs(none.make("part(0)"), 5, 2, 1, 0, 1);
        mostIs(none, 5, 0, 5, 1, 1);
        // an EDGE holds what it has, a FROZEN one too
        mostIs(Run.test(43, said).law("F1/1").make("edge(5, false)"), 5, 3, 5, 1, 1);
        mostIs(Run.test(43, said).law("F1/1").make("freeze(5, false)"), 5, 3, 5, 1, 1);
    }

    private static void mostRefused() {
        Run.test(43, "BAD").due("most(0, 0)", 0).due("most(15, 3)", 15).bad("most(-1, 0)", "most(336, 0)",
                "most(MIN, 0)", "most(MAX, 0)", "most(0, -1)", "most(0, 4)", "most(0, MIN)").bad("most(0, MAX)");
        Run.test(43, ORDER).bad("most(16, 4)", "most(335, -1)");
        Run.test(43, "NOTHING").make("keeping(2, 2, 1)")
                .finds(Run.NOTHING, "most(16, 0)", "most(79, 3)", "most(335, 3)").make("part(3)")
                .finds(Run.NOTHING, "most(3, 0)").fraction(7, 2);
    }

    private static void off() {
        String said = "t times its neighbours (CELLS with which FLOWS may be; the open rim counts as one)";
        Run.test(44, said).due("off(5, 0)", 0).due("off(5, 1)", 4).due("off(5, 20)", 80).due("off(0, 20)", 40)
                .due("off(1, 1)", 3).due("off(15, 1)", 2);
        // a corner's two sides at the rim are one
        Run.test(44, said).law("O1").due("off(0, 1)", 3).due("off(15, 20)", 60).due("off(1, 1)", 4)
                .due("off(5, 20)", 80).law("O0").due("off(0, 1)", 2);
        // one side at the rim is enough
        Run.test(44, said).law("O1").make("part(0)", "part(16)").due("off(81, 1)", 4).due("off(80, 1)", 3)
                .due("off(83, 1)", 4).law("O0").due("off(81, 1)", 3);
        // a great one with ones around it has sixteen
        Run around = Run.test(44, said);
        for (int c : new int[] {1, 4, 6, 9}) {
            around.make("part(" + c + ")");
            for (int q = 0; q < 4; q++) {
                around.make("part(" + (16 + 4 * c + q) + ")");
            }
        }
        around.due("off(5, 1)", 16).due("off(5, 20)", 320).due("off(0, 1)", 8).law("O1").due("off(0, 20)", 180)
                .due("off(80, 1)", MeshWorlds.FINDING);
        Run.test(44, said).make("part(15)", "part(79)").due("off(335, 20)", 40).due("off(332, 1)", 4)
                .due("off(77, 1)", 4).law("O1").due("off(335, 20)", 60).due("off(77, 1)", 5);
        // FROZEN ones are none, and have none; EDGES are
        Run.test(44, said).law("O1").make("freeze(1, false)", "freeze(4, false)").due("off(0, 20)", 20)
                .due("off(5, 1)", 2).due("off(1, 20)", 0).law("").due("off(0, 20)", 0);
        Run.test(44, said).make("edge(1, false)").due("off(0, 1)", 2).due("off(1, 1)", 3).due("off(5, 1)", 4);
        // what F tells does not count
        Run.test(44, "OFF of a CELL after t").law("F1/1").due("off(5, 3)", 12).law("F0/1").due("off(5, 3)", 12)
                .changesNothing("off(5, 3)", "off(0, 20)");
    }

    private static void offRefused() {
        Run.test(44, "in t TICKS (0 .. 20)").due("off(5, 0)", 0).due("off(5, 20)", 80)
                .bad("off(5, -1)", "off(5, 21)", "off(5, MIN)", "off(5, MAX)");
        Run.test(44, "BAD").due("off(0, 1)", 2).due("off(15, 1)", 2)
                .bad("off(-1, 1)", "off(336, 1)", "off(MIN, 1)", "off(MAX, 1)");
        Run.test(44, ORDER).bad("off(16, 21)", "off(335, -1)");
        Run.test(44, "NOTHING").finds(Run.NOTHING, "off(16, 0)", "off(79, 20)", "off(335, 1)").make("part(3)")
                .finds(Run.NOTHING, "off(3, 0)", "off(3, 20)");
    }
}
