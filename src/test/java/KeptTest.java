/** Promises 35 to 41: kept states, flips, stops, odds. */
public final class KeptTest {
    private static final Check CHECK = new Check("KeptTest");

    public static void main(String[] args) {
        keepingAndGoingOn();
        goingOnTellsAnew();
        flips();
        finds();
        stops();
        odds();
        bests();
        CHECK.end();
    }

    private static void keepingAndGoingOn() {
        MeshWorlds x = new MeshWorlds();
        CHECK.refused(x, "keep(-1)", MeshWorlds.BAD, () -> x.keep(-1));
        CHECK.refused(x, "keep(2)", MeshWorlds.BAD, () -> x.keep(2));
        CHECK.refused(x, "goOn(-1)", MeshWorlds.BAD, () -> x.goOn(-1));
        CHECK.refused(x, "goOn(2)", MeshWorlds.BAD, () -> x.goOn(2));
        CHECK.finds(x, "goOn(0)", Check.NOTHING, () -> x.goOn(0));
        CHECK.law(x, "F1/2 O1");
        x.part(3);
        x.amount(5, 1000);
        x.tick();
        CHECK.due("keep(1)", x.keep(1), 19);
        CHECK.due("count(6)", x.count(6), 1);
        CHECK.finds(x, "goOn(0)", Check.NOTHING, () -> x.goOn(0));
        long before = x.digest();
        x.part(5);
        x.part(36);
        x.give(6, 4);
        x.edge(7, false);
        x.flip(8, 3);
        x.join(3);
        CHECK.due("goOn(1)", x.goOn(1), 1);
        CHECK.due("digest() is as kept", x.digest(), before);
        CHECK.due("at(5, 5)", x.at(5, 5), 5);
        CHECK.due("at(13, 0)", x.at(13, 0), 28);
        CHECK.due("curve(5)", x.curve(5), 28);
        CHECK.due("keep(1) anew", x.keep(1), 19);
        CHECK.due("count(6)", x.count(6), 1);
        CHECK.due("keep(0)", x.keep(0), 19);
        CHECK.due("count(6)", x.count(6), 2);
        // what is no part of the state stays: rows, the field, over(), kinds of machines
        x.row(0, 3);
        x.machine(4, 1);
        x.tick();
        x.tick();
        long left = x.over(0);
        CHECK.law(x, "F1/4");
        CHECK.due("goOn(0)", x.goOn(0), 1);
        CHECK.due("count(0)", x.count(0), 1);
        CHECK.due("count(7)", x.count(7), 1);
        CHECK.due("over(0)", x.over(0), left);
        CHECK.due("machine(4, 0)", x.machine(4, 0), 1);
        x.amount(1, 160);
        x.tick();
        CHECK.due("flow(1, 2) by the new field", x.flow(1, 2), 10);
        spareWithCells();
    }

    /** Going on can give a SPARE machine cells: its KIND stays. */
    private static void spareWithCells() {
        MeshWorlds x = new MeshWorlds();
        x.give(9, 5);
        x.keep(0);
        x.give(9, 0);
        x.machine(5, 4);
        x.goOn(0);
        CHECK.tells(x, 9, 5, 5);
        CHECK.due("count(5)", x.count(5), 1);
        CHECK.due("work(5)", x.work(5), 1);
        CHECK.refused(x, "machine(5, 4)", MeshWorlds.STATE, () -> x.machine(5, 4));
        CHECK.refused(x, "stops(5)", MeshWorlds.STATE, () -> x.stops(5));
    }

    private static void goingOnTellsAnew() {
        MeshWorlds x = new MeshWorlds();
        CHECK.law(x, "F1/2");
        x.amount(0, 160);
        x.part(5);
        x.amount(36, 80);
        x.tick();
        x.edge(1, false);
        x.freeze(3, false);
        x.see(36, false);
        x.tick();
        x.tick();
        x.keep(0);
        x.told(36, 1);
        int seen = x.asked();
        CHECK.due("mark(3, 4)", x.mark(3, 4), 1);
        CHECK.due("mark(1, 3) is above 0", x.mark(1, 3) > 0 ? 1 : 0, 1);
        CHECK.due("mark(36, 2) is not its own", x.mark(36, 2) != seen ? 1 : 0, 1);
        x.tick();
        CHECK.due("goOn(0)", x.goOn(0), 3);
        CHECK.due("mark(3, 4)", x.mark(3, 4), 3);
        CHECK.due("mark(1, 3)", x.mark(1, 3), 0);
        CHECK.due("mark(36, 2)", x.mark(36, 2), seen);
        x.amount(36, 7);
        CHECK.due("mark(36, 2)", x.mark(36, 2), 7);
        CHECK.due("mark(36, 1)", x.mark(36, 1), 5);
    }

    private static void flips() {
        MeshWorlds x = new MeshWorlds();
        CHECK.refused(x, "flip(-1, 0)", MeshWorlds.BAD, () -> x.flip(-1, 0));
        CHECK.refused(x, "flip(336, 0)", MeshWorlds.BAD, () -> x.flip(336, 0));
        CHECK.refused(x, "flip(0, -1)", MeshWorlds.BAD, () -> x.flip(0, -1));
        CHECK.refused(x, "flip(16, 19)", MeshWorlds.BAD, () -> x.flip(16, 19));
        CHECK.finds(x, "flip(16, 18)", Check.NOTHING, () -> x.flip(16, 18));
        int all = 0;
        for (int bit = 0; bit <= 18; bit++) {
            all += 1 << bit;
            CHECK.due("flip(2, " + bit + ")", x.flip(2, bit), all);
        }
        CHECK.due("flip(2, 18)", x.flip(2, 18), all - (1 << 18));
        CHECK.amountIs(x, 2, all - (1 << 18));
        x.amount(3, 1000000);
        CHECK.finds(x, "flip(3, 0)", Check.BEYOND, () -> x.flip(3, 0));
        CHECK.due("flip(3, 6)", x.flip(3, 6), 999936);
        CHECK.finds(x, "flip(3, 11)", Check.BEYOND, () -> x.flip(3, 11));
        CHECK.due("flip(3, 6)", x.flip(3, 6), 1000000);
    }

    private static void finds() {
        MeshWorlds x = new MeshWorlds();
        CHECK.refused(x, "find(-1)", MeshWorlds.BAD, () -> x.find(-1));
        CHECK.refused(x, "find(2)", MeshWorlds.BAD, () -> x.find(2));
        CHECK.finds(x, "find(1)", Check.NOTHING, () -> x.find(1));
        x.part(15);
        x.part(79);
        x.amount(335, 40);
        x.keep(1);
        CHECK.refused(x, "find(1) with nothing other", MeshWorlds.NONE, () -> x.find(1));
        x.flip(335, 5);
        CHECK.due("find(1)", x.find(1), 335);
        CHECK.due("asked()", x.asked(), -32);
        x.amount(335, 1000000);
        CHECK.due("find(1)", x.find(1), 335);
        CHECK.due("asked()", x.asked(), 999960);
        x.amount(335, 40);
        x.amount(0, 1);
        CHECK.due("find(1)", x.find(1), 0);
        CHECK.due("asked()", x.asked(), 1);
        // KINDS, machines, THE TICK may be other
        x.edge(1, false);
        x.give(2, 3);
        x.freeze(3, false);
        x.tick();
        CHECK.due("find(1)", x.find(1), 0);
        // the sums look like a flip of 1 alone: 0 one less, 2 one less .. but more cells are other
        x.amount(0, 1);
        x.amount(2, 1);
        CHECK.refused(x, "find(1) of two", MeshWorlds.STATE, () -> x.find(1));
        x.amount(0, 0);
        x.amount(2, 0);
        x.amount(335, 39);
        x.amount(5, 1);
        CHECK.refused(x, "find(1) of two with like sums", MeshWorlds.STATE, () -> x.find(1));
        x.amount(5, 0);
        x.amount(335, 40);
        CHECK.due("find(1)", x.find(1), MeshWorlds.NONE);
        x.part(4);
        CHECK.refused(x, "find(1) with other cells", MeshWorlds.STATE, () -> x.find(1));
        x.join(4);
        CHECK.due("find(1)", x.find(1), MeshWorlds.NONE);
        CHECK.finds(x, "find(0)", Check.NOTHING, () -> x.find(0));
    }

    private static void stops() {
        MeshWorlds x = new MeshWorlds();
        CHECK.refused(x, "stops(-1)", MeshWorlds.BAD, () -> x.stops(-1));
        CHECK.refused(x, "stops(6)", MeshWorlds.BAD, () -> x.stops(6));
        CHECK.refused(x, "stops(0)", MeshWorlds.STATE, () -> x.stops(0));
        x.machine(0, 1);
        x.machine(3, 4);
        x.machine(5, 4);
        x.give(2, 1);
        CHECK.refused(x, "stops(3)", MeshWorlds.STATE, () -> x.stops(3));
        CHECK.due("stops(0)", x.stops(0), 3);
        CHECK.due("work(3)", x.work(3), 15);
        CHECK.due("work(0)", x.work(0), 0);
        CHECK.due("machine(3, 2)", x.machine(3, 2), 0);
        CHECK.due("machine(0, 0): a stopped one keeps its KIND", x.machine(0, 0), 1);
        CHECK.tells(x, 2, 5, 1);
        CHECK.due("stops(4) without cells", x.stops(4), 5);
        CHECK.due("count(5)", x.count(5), 0);
        CHECK.due("work(5)", x.work(5), 0);
        CHECK.refused(x, "stops(1)", MeshWorlds.STATE, () -> x.stops(1));
        x.machine(0, 4);
        CHECK.due("stops(3) to the first", x.stops(3), 0);
        CHECK.due("work(0)", x.work(0), 15);
    }

    private static void odds() {
        MeshWorlds x = new MeshWorlds();
        int[][] bad = {{0, 2, 0}, {9, 2, 0}, {1, 1, 0}, {1, 21, 0}, {1, 2, -1}, {1, 2, 21}, {-1, -1, -1}};
        for (int[] b : bad) {
            CHECK.refused(x, "keeping bad", MeshWorlds.BAD, () -> x.keeping(b[0], b[1], b[2]));
        }
        CHECK.due("keeping(1, 2, 0)", x.keeping(1, 2, 0), 1);
        CHECK.fraction(x, "keeping(1, 2, 0)", 2, 1);
        CHECK.due("keeping(3, 4, 5)", x.keeping(3, 4, 5), 1);
        // 4 times (64 - 27) by 27, and 5, by 3: 283 by 81
        CHECK.fraction(x, "keeping(3, 4, 5)", 283, 81);
        CHECK.due("keeping(8, 20, 0)", x.keeping(8, 20, 0), 1);
        CHECK.fraction(x, "keeping(8, 20, 0)", 20 * (25600000000L - 16983563041L) / 4, 8 * 16983563041L / 4);
    }

    private static void bests() {
        MeshWorlds x = new MeshWorlds();
        int[][] bad = {{1, 0}, {21, 0}, {2, -1}, {2, 21}, {Integer.MIN_VALUE, Integer.MAX_VALUE}};
        for (int[] b : bad) {
            CHECK.refused(x, "best bad", MeshWorlds.BAD, () -> x.best(b[0], b[1]));
        }
        for (int d = 2; d <= 20; d++) {
            CHECK.due("best(" + d + ", 0)", x.best(d, 0), 1);
            CHECK.fraction(x, "best(" + d + ", 0)", d, d - 1);
        }
        // with d 2: 2, 6, 14 and c by 1, 2, 3: alike for 1 and 2 at c 2
        CHECK.due("best(2, 2)", x.best(2, 2), 1);
        CHECK.fraction(x, "best(2, 2)", 4, 1);
        CHECK.due("best(2, 3)", x.best(2, 3), 2);
        CHECK.fraction(x, "best(2, 3)", 9, 2);
    }
}
