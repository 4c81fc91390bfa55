/** Promises 2 to 6: rows. */
public final class RowsTest {
    private static final Check CHECK = new Check("RowsTest");

    public static void main(String[] args) {
        rows();
        laying();
        tearing();
        copying();
        averages();
        CHECK.end();
    }

    private static void rows() {
        MeshWorlds x = new MeshWorlds();
        CHECK.refused(x, "row(-1, 1)", MeshWorlds.BAD, () -> x.row(-1, 1));
        CHECK.refused(x, "row(6, 1)", MeshWorlds.BAD, () -> x.row(6, 1));
        CHECK.refused(x, "row(6, -1)", MeshWorlds.BAD, () -> x.row(6, -1));
        CHECK.refused(x, "row(0, 41)", MeshWorlds.BAD, () -> x.row(0, 41));
        CHECK.finds(x, "row(0, -1)", Check.SIZE, () -> x.row(0, -1));
        CHECK.finds(x, "row(5, MIN)", Check.SIZE, () -> x.row(5, Integer.MIN_VALUE));
        CHECK.due("count(7)", x.count(7), 0);
        CHECK.due("row(0, 0)", x.row(0, 0), 0);
        CHECK.due("row(5, 40)", x.row(5, 40), 40);
        CHECK.due("count(7)", x.count(7), 2);
        CHECK.due("lay(5, 39, 3)", x.lay(5, 39, 3), 1);
        CHECK.due("row(5, 40) anew", x.row(5, 40), 40);
        CHECK.due("lay(5, 39, 4)", x.lay(5, 39, 4), 1);
        CHECK.due("a row made anew has 0 in it", x.asked(), 0);
    }

    private static void laying() {
        MeshWorlds x = new MeshWorlds();
        CHECK.refused(x, "lay(6, 0, 1)", MeshWorlds.BAD, () -> x.lay(6, 0, 1));
        CHECK.refused(x, "lay(-1, 0, 1)", MeshWorlds.BAD, () -> x.lay(-1, 0, 1));
        CHECK.finds(x, "lay(2, 0, 1)", Check.NOTHING, () -> x.lay(2, 0, 1));
        x.row(2, 3);
        CHECK.finds(x, "lay(2, 3, 1)", Check.BEYOND, () -> x.lay(2, 3, 1));
        CHECK.finds(x, "lay(2, -1, 1)", Check.BEYOND, () -> x.lay(2, -1, 1));
        CHECK.finds(x, "lay(2, MAX, 1)", Check.BEYOND, () -> x.lay(2, Integer.MAX_VALUE, 1));
        CHECK.finds(x, "lay(2, MIN, 1)", Check.BEYOND, () -> x.lay(2, Integer.MIN_VALUE, 1));
        CHECK.due("lay(2, 2, MIN)", x.lay(2, 2, Integer.MIN_VALUE), 1);
        CHECK.due("asked()", x.asked(), 0);
        CHECK.due("lay(2, 2, 7)", x.lay(2, 2, 7), 1);
        CHECK.due("asked()", x.asked(), Integer.MIN_VALUE);
    }

    private static void tearing() {
        MeshWorlds x = new MeshWorlds();
        CHECK.refused(x, "tear(6)", MeshWorlds.BAD, () -> x.tear(6));
        CHECK.refused(x, "tear(-1)", MeshWorlds.BAD, () -> x.tear(-1));
        CHECK.finds(x, "tear(4)", Check.NOTHING, () -> x.tear(4));
        x.row(4, 2);
        CHECK.due("tear(4)", x.tear(4), 1);
        CHECK.due("count(7)", x.count(7), 0);
        CHECK.finds(x, "tear(4) again", Check.NOTHING, () -> x.tear(4));
        CHECK.finds(x, "lay(4, 0, 0)", Check.NOTHING, () -> x.lay(4, 0, 0));
    }

    private static void copying() {
        MeshWorlds x = new MeshWorlds();
        CHECK.refused(x, "copy(6, 0, 0, 0, 0)", MeshWorlds.BAD, () -> x.copy(6, 0, 0, 0, 0));
        CHECK.refused(x, "copy(0, 0, -1, 0, -1)", MeshWorlds.BAD, () -> x.copy(0, 0, -1, 0, -1));
        CHECK.finds(x, "copy(0, 0, 1, 0, -1)", Check.SIZE, () -> x.copy(0, 0, 1, 0, -1));
        x.row(0, 5);
        CHECK.finds(x, "copy(0, 0, 1, 0, 1)", Check.NOTHING, () -> x.copy(0, 0, 1, 0, 1));
        CHECK.finds(x, "copy(1, 0, 0, 0, 1)", Check.NOTHING, () -> x.copy(1, 0, 0, 0, 1));
        for (int i = 0; i < 5; i++) {
            x.lay(0, i, 10 + i);
        }
        x.row(1, 3);
        CHECK.finds(x, "copy(0, 3, 1, 0, 3)", Check.BEYOND, () -> x.copy(0, 3, 1, 0, 3));
        CHECK.finds(x, "copy(0, 0, 1, 1, 3)", Check.BEYOND, () -> x.copy(0, 0, 1, 1, 3));
        CHECK.finds(x, "copy(0, -1, 1, 0, 1)", Check.BEYOND, () -> x.copy(0, -1, 1, 0, 1));
        CHECK.finds(x, "copy(0, 0, 1, -1, 1)", Check.BEYOND, () -> x.copy(0, 0, 1, -1, 1));
        CHECK.finds(x, "copy(0, MAX, 1, 0, MAX)", Check.BEYOND,
                () -> x.copy(0, Integer.MAX_VALUE, 1, 0, Integer.MAX_VALUE));
        CHECK.finds(x, "copy(0, MIN, 1, 0, 1)", Check.BEYOND, () -> x.copy(0, Integer.MIN_VALUE, 1, 0, 1));
        CHECK.due("copy(0, 5, 1, 3, 0)", x.copy(0, 5, 1, 3, 0), 1);
        CHECK.due("copy(0, 2, 1, 0, 3)", x.copy(0, 2, 1, 0, 3), 1);
        rowIs(x, 1, 12, 13, 14);
        CHECK.due("copy(0, 0, 0, 1, 4)", x.copy(0, 0, 0, 1, 4), 1);
        rowIs(x, 0, 10, 10, 11, 12, 13);
        CHECK.due("copy(0, 1, 0, 0, 4)", x.copy(0, 1, 0, 0, 4), 1);
        rowIs(x, 0, 10, 11, 12, 13, 13);
        x.row(5, 40);
        x.lay(5, 38, 7);
        x.lay(5, 39, 8);
        x.row(3, 4);
        CHECK.due("copy(5, 38, 3, 1, 2)", x.copy(5, 38, 3, 1, 2), 1);
        rowIs(x, 3, 0, 7, 8, 0);
        rowIs(x, 0, 10, 11, 12, 13, 13);
    }

    private static void rowIs(MeshWorlds x, int r, int... want) {
        for (int i = 0; i < want.length; i++) {
            x.lay(r, i, 0);
            CHECK.due("place " + i + " of row " + r, x.asked(), want[i]);
            x.lay(r, i, want[i]);
        }
    }

    private static void averages() {
        MeshWorlds x = new MeshWorlds();
        CHECK.refused(x, "average(6)", MeshWorlds.BAD, () -> x.average(6));
        CHECK.refused(x, "average(-1)", MeshWorlds.BAD, () -> x.average(-1));
        CHECK.finds(x, "average(0)", Check.NOTHING, () -> x.average(0));
        x.row(0, 0);
        CHECK.finds(x, "average(0) of none", Check.NOUGHT, () -> x.average(0));
        x.row(0, 2);
        x.lay(0, 0, 7);
        x.lay(0, 1, 4);
        CHECK.due("average(0)", x.average(0), 1);
        CHECK.due("asked()", x.asked(), 5);
        x.lay(0, 0, -7);
        x.lay(0, 1, -4);
        CHECK.due("average(0)", x.average(0), 1);
        CHECK.due("asked() is cut", x.asked(), -5);
        x.lay(0, 0, Integer.MAX_VALUE);
        x.lay(0, 1, Integer.MAX_VALUE);
        CHECK.due("average(0)", x.average(0), 1);
        CHECK.due("asked() of great ints", x.asked(), Integer.MAX_VALUE);
    }
}
