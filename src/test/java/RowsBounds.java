/** Promises 1 to 6, sentence by sentence: a new object and its rows. */
final class RowsBounds {
    private RowsBounds() {
    }

    static void all() {
        newObject();
        row();
        rowRefused();
        lay();
        layRefused();
        tear();
        copy();
        copyRefused();
        copyBeyond();
        average();
    }

    private static void newObject() {
        Run.test(1, "No ROWS, TEXTS").due("count(7)", 0).due("count(8)", 0)
                .finds(Run.NOTHING, "tear(0)", "tear(1)", "tear(2)", "tear(3)", "tear(4)", "tear(5)")
                .finds(Run.NOTHING, "fault(0)", "fault(1)", "fault(2)", "fault(3)");
        Run cells = Run.test(1, "CELLS 0 .. 15 with amount 0").due("count(1)", 16).due("sum()", 0)
                .finds(Run.NOTHING, "told(16, 1)", "told(79, 1)", "told(80, 1)", "told(335, 1)")
                .bad("told(-1, 1)", "told(336, 1)");
        Run given = Run.test(1, "all given to MACHINE 0").due("work(0)", 16).due("cuts()", 0);
        for (int c = 0; c < 16; c++) {
            cells.tells(c, 1, 0).tells(c, 0, 0);
            given.tells(c, 5, 0);
        }
        for (int m = 1; m < 6; m++) {
            given.due("work(" + m + ")", 0);
        }
        Run.test(1, "THE TICK 0").due("count(0)", 0);
    }

    private static void row() {
        Run full = Run.test(2, "A ROW is there with n ints 0: n").due("row(0, 40)", 40).due("count(7)", 1);
        for (int i = 0; i < 40; i++) {
            full.due("lay(0, " + i + ", 9)", 1).asked(0);
        }
        Run.test(2, "A ROW is there with n ints 0: n").due("row(0, 0)", 0).due("count(7)", 1).due("tear(0)", 1);
        Run.test(2, "A ROW is there with n ints 0: n").due("row(5, 1)", 1).rowIs(5, 0);
        // one that is there is made anew
        Run.test(2, "A ROW is there with n ints 0: n").make("row(1, 3)", "lay(1, 0, 7)", "lay(1, 2, 8)")
                .due("row(1, 3)", 3).rowIs(1, 0, 0, 0).due("count(7)", 1);
        // what stood behind a shorter one's end does not come back
        Run.test(2, "A ROW is there with n ints 0: n").make("row(1, 40)", "lay(1, 39, 7)")
                .due("row(1, 1)", 1).due("row(1, 40)", 40).make("lay(1, 39, 0)").asked(0);
        // its neighbours stay
        Run.test(2, "A ROW is there with n ints 0: n").make("row(0, 40)", "lay(0, 39, 5)", "row(2, 1)", "lay(2, 0, 6)")
                .due("row(1, 40)", 40).due("lay(0, 39, 0)", 1).asked(5).due("lay(2, 0, 0)", 1).asked(6);
        Run.test(2, "rows of 0 to 40 ints").due("row(0, 0)", 0).due("row(1, 40)", 40)
                .bad("row(2, 41)").finds(Run.SIZE, "row(2, -1)");
    }

    private static void rowRefused() {
        Run.test(2, "BAD: also n above 40").due("row(0, 40)", 40).bad("row(0, 41)", "row(0, 42)", "row(0, MAX)")
                .bad("row(1, 41)", "row(5, 41)");
        Run.test(2, "ROWS 0 .. 5").due("row(0, 2)", 2).due("row(5, 2)", 2).due("count(7)", 2)
                .bad("row(-1, 2)", "row(6, 2)", "row(MIN, 2)", "row(MAX, 2)");
        Run.test(2, "SIZE: below 0").due("row(0, 0)", 0).finds(Run.SIZE, "row(0, -1)", "row(0, MIN)", "row(5, -1)");
        // one that is there stays as it was
        Run.test(2, "SIZE: below 0").make("row(3, 2)", "lay(3, 1, 4)").finds(Run.SIZE, "row(3, -1)").rowIs(3, 0, 4);
        Run.test(2, "the first of these that fits, in this order").bad("row(6, -1)", "row(-1, MIN)", "row(6, 41)");
    }

    private static void lay() {
        Run.test(3, "Place i of a ROW is v: what it was, told by asked(): 1").make("row(0, 2)")
                .due("lay(0, 1, MAX)", 1).asked(0).due("lay(0, 1, MIN)", 1).asked(Integer.MAX_VALUE)
                .due("lay(0, 1, -1)", 1).asked(Integer.MIN_VALUE).due("lay(0, 1, 5)", 1).asked(-1).rowIs(0, 0, 5);
        // the last place of a full row is not the first of the next one
        Run.test(3, "Place i of a ROW is v: what it was, told by asked(): 1").make("row(0, 40)", "row(1, 40)")
                .due("lay(0, 39, 3)", 1).due("lay(1, 0, 4)", 1).asked(0).due("lay(0, 39, 0)", 1).asked(3);
    }

    private static void layRefused() {
        Run.test(3, "BAD").make("row(0, 1)", "row(5, 1)").due("lay(0, 0, 1)", 1).due("lay(5, 0, 1)", 1)
                .bad("lay(-1, 0, 1)", "lay(6, 0, 1)", "lay(MIN, 0, 1)", "lay(MAX, 0, 1)");
        Run.test(3, "the first of these that fits, in this order").bad("lay(6, -1, 1)", "lay(-1, 40, 1)");
        Run.test(3, "NOTHING").make("row(0, 1)", "row(2, 1)").finds(Run.NOTHING, "lay(1, 0, 1)", "lay(5, 0, 1)");
        Run.test(3, "NOTHING").make("row(1, 3)", "tear(1)")
                .finds(Run.NOTHING, "lay(1, 0, 1)", "lay(1, -1, 1)", "lay(1, 40, 1)");
        Run.test(3, "BEYOND").make("row(0, 3)").due("lay(0, 2, 8)", 1).due("lay(0, 0, 7)", 1)
                .finds(Run.BEYOND, "lay(0, 3, 1)", "lay(0, -1, 1)", "lay(0, 40, 1)", "lay(0, MAX, 1)",
                "lay(0, MIN, 1)");
        Run.test(3, "BEYOND").make("row(0, 0)").finds(Run.BEYOND, "lay(0, 0, 1)", "lay(0, -1, 1)");
        Run.test(3, "BEYOND").make("row(0, 40)", "row(1, 40)").due("lay(0, 39, 8)", 1)
                .finds(Run.BEYOND, "lay(0, 40, 1)", "lay(1, -1, 1)");
        // behind a shorter one's end
        Run.test(3, "2 BEYOND (a place that there is not").make("row(0, 40)", "row(0, 2)")
                .finds(Run.BEYOND, "lay(0, 2, 1)", "lay(0, 39, 1)");
    }

    private static void tear() {
        Run.test(4, "A ROW is missing: 1").make("row(0, 2)", "row(1, 2)", "lay(1, 1, 3)").due("tear(0)", 1)
                .due("count(7)", 1).finds(Run.NOTHING, "lay(0, 0, 1)").rowIs(1, 0, 3);
        Run.test(4, "A ROW is missing: 1").make("row(5, 0)").due("tear(5)", 1).due("count(7)", 0);
        Run.test(4, "BAD").make("row(0, 1)", "row(5, 1)").bad("tear(-1)", "tear(6)", "tear(MIN)", "tear(MAX)")
                .due("tear(0)", 1).due("tear(5)", 1);
        Run.test(4, "NOTHING").make("row(1, 1)").finds(Run.NOTHING, "tear(0)", "tear(2)", "tear(5)");
        Run.test(4, "NOTHING").make("row(1, 1)", "tear(1)").finds(Run.NOTHING, "tear(1)");
        Run.test(4, "or missing (at first)")
                .finds(Run.NOTHING, "tear(0)", "tear(1)", "tear(2)", "tear(3)", "tear(4)", "tear(5)");
        // it can be there again, and its ints are 0
        Run.test(4, "A ROW is missing: 1").make("row(2, 2)", "lay(2, 0, 5)", "tear(2)", "row(2, 2)").rowIs(2, 0, 0);
    }

    private static void copy() {
        String said = "n places of a ROW, from one on, come to those of another one (perhaps itself) from one "
                + "on, as if taken ahead: 1";
        rowOfFive(Run.test(5, said)).make("row(1, 3)").due("copy(0, 2, 1, 0, 3)", 1).rowIs(1, 12, 13, 14)
                .rowIs(0, 10, 11, 12, 13, 14);
        rowOfFive(Run.test(5, said)).make("row(1, 4)").due("copy(0, 0, 1, 1, 2)", 1).rowIs(1, 0, 10, 11, 0);
        rowOfFive(Run.test(5, "(perhaps itself)")).due("copy(0, 0, 0, 1, 4)", 1).rowIs(0, 10, 10, 11, 12, 13);
        rowOfFive(Run.test(5, "(perhaps itself)")).due("copy(0, 1, 0, 0, 4)", 1).rowIs(0, 11, 12, 13, 14, 14);
        rowOfFive(Run.test(5, "(perhaps itself)")).due("copy(0, 0, 0, 0, 5)", 1).rowIs(0, 10, 11, 12, 13, 14);
        // none: nothing comes, at the ends neither
        rowOfFive(Run.test(5, said)).changesNothing("copy(0, 0, 0, 3, 0)", "copy(0, 5, 0, 5, 0)", "copy(0, 0, 0, 5, 0)")
                .due("copy(0, 5, 0, 5, 0)", 1).due("copy(0, 0, 0, 0, 0)", 1);
        Run.test(5, said).make("row(3, 0)", "row(4, 0)").due("copy(3, 0, 4, 0, 0)", 1).due("copy(3, 0, 3, 0, 0)", 1);
        // full rows, whole
        Run.test(5, said).make("row(4, 40)", "row(5, 40)", "lay(4, 0, 1)", "lay(4, 39, 2)")
                .due("copy(4, 0, 5, 0, 40)", 1).due("lay(5, 0, 0)", 1).asked(1).due("lay(5, 39, 0)", 1).asked(2);
        Run.test(5, said).make("row(4, 40)", "row(5, 40)", "lay(4, 39, 2)").due("copy(4, 39, 5, 39, 1)", 1)
                .due("lay(5, 39, 0)", 1).asked(2);
    }

    private static Run rowOfFive(Run run) {
        return run.make("row(0, 5)", "lay(0, 0, 10)", "lay(0, 1, 11)", "lay(0, 2, 12)", "lay(0, 3, 13)",
                "lay(0, 4, 14)");
    }

    private static void copyRefused() {
        Run.test(5, "BAD").make("row(0, 1)", "row(5, 1)").due("copy(0, 0, 5, 0, 1)", 1).due("copy(5, 0, 0, 0, 1)", 1)
                .bad("copy(-1, 0, 0, 0, 1)", "copy(6, 0, 0, 0, 1)", "copy(0, 0, -1, 0, 1)", "copy(0, 0, 6, 0, 1)")
                .bad("copy(MIN, 0, 0, 0, 1)", "copy(0, 0, MAX, 0, 1)");
        Run.test(5, "the first of these that fits, in this order").make("row(0, 1)").bad("copy(6, 0, 0, 0, -1)",
                "copy(0, 0, 6, 0, -1)", "copy(6, 0, 1, 0, 1)", "copy(1, 0, 6, 0, 1)", "copy(6, 9, 0, 9, 9)");
        Run.test(5, "SIZE: n below 0").make("row(0, 2)", "row(1, 2)").due("copy(0, 0, 1, 0, 0)", 1)
                .finds(Run.SIZE, "copy(0, 0, 1, 0, -1)", "copy(0, 0, 1, 0, MIN)", "copy(0, 1, 0, 1, -1)");
        Run.test(5, "SIZE: n below 0; NOTHING: either; BEYOND: not so many there").make("row(0, 2)")
                .finds(Run.SIZE, "copy(2, 0, 0, 0, -1)", "copy(0, 0, 2, 0, -1)", "copy(0, 9, 0, 9, -1)")
                .finds(Run.NOTHING, "copy(2, 9, 0, 9, 9)", "copy(0, 9, 2, 9, 9)", "copy(0, -1, 2, 0, 1)");
        Run.test(5, "NOTHING: either").make("row(0, 2)")
                .finds(Run.NOTHING, "copy(0, 0, 1, 0, 1)", "copy(1, 0, 0, 0, 1)").finds(Run.NOTHING,
                "copy(1, 0, 2, 0, 1)", "copy(1, 0, 1, 0, 0)", "copy(0, 0, 1, 0, 0)", "copy(1, 0, 0, 0, 0)");
    }

    private static void copyBeyond() {
        rowOfFive(Run.test(5, "BEYOND: not so many there")).make("row(1, 3)").due("copy(0, 2, 1, 0, 3)", 1)
                .finds(Run.BEYOND, "copy(0, 3, 1, 0, 3)", "copy(0, 5, 1, 0, 1)", "copy(0, 0, 1, 0, 4)",
                "copy(0, 0, 1, 3, 1)").finds(Run.BEYOND, "copy(0, 0, 1, 1, 3)", "copy(0, -1, 1, 0, 1)",
                "copy(0, 0, 1, -1, 1)", "copy(1, 0, 0, 0, 4)");
        // sums that wrap around
        rowOfFive(Run.test(5, "BEYOND: not so many there")).finds(Run.BEYOND, "copy(0, MAX, 0, 0, 1)",
                "copy(0, 0, 0, MAX, 1)", "copy(0, 1, 0, 0, MAX)", "copy(0, 0, 0, 1, MAX)").finds(Run.BEYOND,
                "copy(0, MAX, 0, MAX, MAX)", "copy(0, MIN, 0, 0, MAX)", "copy(0, 0, 0, MIN, MAX)",
                "copy(0, MIN, 0, 0, 0)");
        // none from a place that there is not
        rowOfFive(Run.test(5, "2 BEYOND (a place that there is not")).due("copy(0, 5, 0, 0, 0)", 1)
                .due("copy(0, 0, 0, 5, 0)", 1).finds(Run.BEYOND, "copy(0, 6, 0, 0, 0)", "copy(0, 0, 0, 6, 0)",
                "copy(0, -1, 0, 0, 0)", "copy(0, 0, 0, -1, 0)");
        Run.test(5, "BEYOND: not so many there").make("row(0, 40)", "row(1, 40)").due("copy(0, 0, 1, 0, 40)", 1)
                .finds(Run.BEYOND, "copy(0, 0, 1, 0, 41)", "copy(0, 1, 1, 0, 40)", "copy(0, 0, 1, 1, 40)",
                "copy(0, 0, 0, 1, 40)");
        Run.test(5, "BEYOND: not so many there").make("row(0, 0)", "row(1, 1)")
                .finds(Run.BEYOND, "copy(0, 0, 1, 0, 1)", "copy(1, 0, 0, 0, 1)");
    }

    private static void average() {
        String said = "The mean of a ROW's ints, cut, told by asked(): 1";
        averageOf(Run.test(6, said), 5, 7, 4);
        averageOf(Run.test(6, said), -5, -7, -4);
        averageOf(Run.test(6, said), 0, 1, 0);
        averageOf(Run.test(6, said), 0, -1, 0);
        averageOf(Run.test(6, said), 0, Integer.MIN_VALUE, Integer.MAX_VALUE);
        averageOf(Run.test(6, said), 9, 9);
        averageOf(Run.test(6, said), Integer.MIN_VALUE, Integer.MIN_VALUE);
        averageOf(Run.test(6, said), 1, 2, 2, 1);
        int[] most = new int[40];
        java.util.Arrays.fill(most, Integer.MAX_VALUE);
        averageOf(Run.test(6, said), Integer.MAX_VALUE, most);
        java.util.Arrays.fill(most, Integer.MIN_VALUE);
        averageOf(Run.test(6, said), Integer.MIN_VALUE, most);
        Run.test(6, "BAD").make("row(0, 1)", "row(5, 1)").due("average(0)", 1).due("average(5)", 1)
                .bad("average(-1)", "average(6)", "average(MIN)", "average(MAX)");
        Run.test(6, "NOTHING").make("row(1, 1)").finds(Run.NOTHING, "average(0)", "average(5)");
        Run.test(6, "NOTHING").make("row(1, 1)", "tear(1)").finds(Run.NOTHING, "average(1)");
        Run.test(6, "NOUGHT").make("row(1, 0)", "row(2, 1)").finds(Run.NOUGHT, "average(1)").due("average(2)", 1);
        Run.test(6, "4 NOUGHT (shared among none)").make("row(0, 40)", "row(0, 0)").finds(Run.NOUGHT, "average(0)");
    }

    private static void averageOf(Run run, int want, int... ints) {
        run.make("row(4, " + ints.length + ")");
        for (int i = 0; i < ints.length; i++) {
            run.make("lay(4, " + i + ", " + ints[i] + ")");
        }
        run.due("average(4)", 1).asked(want).rowIs(4, ints);
    }
}
