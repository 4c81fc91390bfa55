/** Promises 7 to 10: texts and the field. */
public final class TextsTest {
    private static final Check CHECK = new Check("TextsTest");

    public static void main(String[] args) {
        texts();
        putting();
        faults();
        fields();
        CHECK.end();
    }

    private static void texts() {
        MeshWorlds x = new MeshWorlds();
        CHECK.refused(x, "text(4, 0)", MeshWorlds.BAD, () -> x.text(4, 0));
        CHECK.refused(x, "text(-1, -1)", MeshWorlds.BAD, () -> x.text(-1, -1));
        CHECK.refused(x, "text(0, 41)", MeshWorlds.BAD, () -> x.text(0, 41));
        CHECK.finds(x, "text(0, -1)", Check.SIZE, () -> x.text(0, -1));
        CHECK.due("text(3, 40)", x.text(3, 40), 40);
        CHECK.due("text(0, 0)", x.text(0, 0), 0);
        CHECK.due("count(8)", x.count(8), 2);
        CHECK.due("put(3, 39, 65)", x.put(3, 39, 65), 1032);
        CHECK.due("text(3, 40) anew", x.text(3, 40), 40);
        CHECK.due("put(3, 39, 65)", x.put(3, 39, 65), 1032);
    }

    private static void putting() {
        MeshWorlds x = new MeshWorlds();
        CHECK.refused(x, "put(4, 0, 0)", MeshWorlds.BAD, () -> x.put(4, 0, 0));
        CHECK.refused(x, "put(-1, 0, 0)", MeshWorlds.BAD, () -> x.put(-1, 0, 0));
        CHECK.finds(x, "put(1, 0, 0)", Check.NOTHING, () -> x.put(1, 0, 0));
        x.text(1, 2);
        CHECK.finds(x, "put(1, 2, 0)", Check.BEYOND, () -> x.put(1, 2, 0));
        CHECK.finds(x, "put(1, -1, 0)", Check.BEYOND, () -> x.put(1, -1, 0));
        CHECK.due("put(1, 1, 200)", x.put(1, 1, 200), 1032);
        CHECK.due("put(1, 1, 511)", x.put(1, 1, 511), 1000 - 56);
        CHECK.due("put(1, 1, 128)", x.put(1, 1, 128), 999);
        CHECK.due("put(1, 1, 256)", x.put(1, 1, 256), 872);
        CHECK.due("put(1, 1, 0)", x.put(1, 1, 0), 1000);
    }

    private static void faults() {
        MeshWorlds x = new MeshWorlds();
        CHECK.refused(x, "fault(4)", MeshWorlds.BAD, () -> x.fault(4));
        CHECK.refused(x, "fault(-1)", MeshWorlds.BAD, () -> x.fault(-1));
        CHECK.finds(x, "fault(2)", Check.NOTHING, () -> x.fault(2));
        faultOf("", MeshWorlds.NONE);
        faultOf("    ", MeshWorlds.NONE);
        faultOf("  F1/2  O1  P7  J8  ", MeshWorlds.NONE);
        faultOf("J8P7O1F1/2", MeshWorlds.NONE);
        faultOf("F0/1", MeshWorlds.NONE);
        faultOf("F99/99", MeshWorlds.NONE);
        faultOf("F01/02", MeshWorlds.NONE);
        faultOf("P000001", MeshWorlds.NONE);
        faultOf("P999999J000000", MeshWorlds.NONE);
        faultOf("F", 1);
        faultOf("F1", 2);
        faultOf("F1/", 3);
        faultOf("F/2", 1);
        faultOf("F 1/2", 1);
        faultOf("F1 /2", 2);
        faultOf("F1/ 2", 3);
        faultOf("F1//2", 3);
        faultOf("F1/0", 4);
        faultOf("F1/0  ", 4);
        faultOf("F0/00 ", 5);
        faultOf("F1/000", 5);
        faultOf("F3/2 O1", 4);
        faultOf("F12/11", 6);
        faultOf("F123/4", 3);
        faultOf("F1/123", 5);
        faultOf("O", 1);
        faultOf("O2", 1);
        faultOf("O ", 1);
        faultOf("O11", 2);
        faultOf("P", 1);
        faultOf("P0", 2);
        faultOf("P00 ", 3);
        faultOf("P0000000", 7);
        faultOf("P1234567", 7);
        faultOf("P-1", 1);
        faultOf("J", 1);
        faultOf("J1234567", 7);
        faultOf("  f1/2", 2);
        faultOf("O1 X", 3);
        faultOf("P0 P5", 2);
        faultOf("7", 0);
        x.text(0, 2);
        x.put(0, 1, 200);
        CHECK.due("fault at a byte below 0", x.fault(0), 1);
        x.put(0, 1, 0);
        CHECK.due("fault at a byte 0", x.fault(0), 1);
        x.text(0, 40);
        x.put(0, 39, 'F');
        CHECK.due("fault at the end of a text of 40", x.fault(0), 40);
        // the next text's first signs are not read on to
        Check.write(x, 1, "1/2");
        CHECK.due("fault at the end of a text of 40", x.fault(0), 40);
    }

    private static void faultOf(String signs, int want) {
        MeshWorlds x = new MeshWorlds();
        Check.write(x, 0, signs);
        CHECK.due("fault of '" + signs + "'", x.fault(0), want);
        if (want == MeshWorlds.NONE) {
            CHECK.due("field of '" + signs + "'", x.field(0), 1);
        } else {
            CHECK.refused(x, "field of '" + signs + "'", MeshWorlds.STATE, () -> x.field(0));
        }
    }

    private static void fields() {
        MeshWorlds x = new MeshWorlds();
        CHECK.refused(x, "field(4)", MeshWorlds.BAD, () -> x.field(4));
        CHECK.refused(x, "field(-1)", MeshWorlds.BAD, () -> x.field(-1));
        CHECK.finds(x, "field(2)", Check.NOTHING, () -> x.field(2));
        x.text(3, 0);
        long first = x.digest();
        x.amount(5, 1600);
        // the last of alike items counts
        CHECK.law(x, "F1/1 F1/2O1O0");
        x.tick();
        CHECK.amountIs(x, 5, 800);
        CHECK.due("over(0)", x.over(0), 0);
        // a fault leaves the field as it was, whatever stood ahead of it
        Check.write(x, 3, "F1/1O1?");
        CHECK.due("field(3)", x.field(3), MeshWorlds.STATE);
        Check.write(x, 3, "F1/1O1?");
        CHECK.due("fault(3)", x.fault(3), 6);
        x.tick();
        CHECK.due("flow(5, 6)", x.flow(5, 6), 100);
        // what a new text does not tell is as at first
        CHECK.law(x, "");
        x.tick();
        CHECK.due("flow(5, 6)", x.flow(5, 6), 0);
        MeshWorlds y = new MeshWorlds();
        CHECK.law(y, "F1/2 O1 P5 J3");
        CHECK.law(y, "");
        CHECK.due("digest() with the field as at first", y.digest(), first);
    }
}
