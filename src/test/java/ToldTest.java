/** Promises 45 to 51: what is told. */
public final class ToldTest {
    private static final Check CHECK = new Check("ToldTest");

    public static void main(String[] args) {
        asked();
        fractions();
        counts();
        findings();
        digests();
        CHECK.end();
    }

    private static void asked() {
        MeshWorlds x = new MeshWorlds();
        CHECK.due("asked() before", x.asked(), 0);
        x.row(0, 2);
        x.lay(0, 0, 12);
        x.lay(0, 0, 30);
        CHECK.due("asked() of lay()", x.asked(), 12);
        x.lay(0, 2, 30);
        CHECK.due("asked() behind a refused lay()", x.asked(), 12);
        x.average(0);
        CHECK.due("asked() of average()", x.asked(), 15);
        x.average(1);
        CHECK.due("asked() behind a refused average()", x.asked(), 15);
        x.told(9, 4);
        CHECK.due("asked() of told()", x.asked(), 8);
        x.keep(0);
        x.find(0);
        CHECK.due("asked() behind find() without a cell", x.asked(), 8);
        x.flip(1, 4);
        x.find(0);
        CHECK.due("asked() of find()", x.asked(), 16);
        x.flip(2, 4);
        x.find(0);
        CHECK.due("asked() behind find() of two", x.asked(), 16);
        x.digest();
        x.amount(1, 3);
        x.mark(1, 1);
        CHECK.due("asked() behind others", x.asked(), 16);
    }

    private static void fractions() {
        MeshWorlds x = new MeshWorlds();
        CHECK.fraction(x, "before", 0, 1);
        x.keeping(2, 2, 1);
        CHECK.fraction(x, "keeping()", 7, 2);
        x.keeping(0, 2, 1);
        CHECK.fraction(x, "behind a refused one", 7, 2);
        x.best(21, 0);
        CHECK.fraction(x, "behind a refused one", 7, 2);
        x.share(0, 1, 2);
        CHECK.fraction(x, "share()", 0, 1);
        x.most(0, 2);
        CHECK.fraction(x, "most()", 1, 1);
        x.best(3, 1);
        x.share(16, 0, 1);
        CHECK.fraction(x, "best()", 19, 8);
    }

    private static void counts() {
        MeshWorlds x = new MeshWorlds();
        CHECK.refused(x, "count(-1)", MeshWorlds.BAD, () -> x.count(-1));
        CHECK.refused(x, "count(9)", MeshWorlds.BAD, () -> x.count(9));
        x.tick();
        x.tick();
        x.part(0);
        x.see(17, false);
        x.freeze(1, false);
        x.freeze(2, false);
        x.freeze(3, false);
        x.edge(4, false);
        x.edge(5, false);
        x.machine(1, 4);
        x.keep(1);
        x.row(5, 0);
        x.row(4, 0);
        x.text(3, 0);
        x.text(2, 0);
        x.text(1, 0);
        int[] want = {2, 19, 4, 3, 2, 1, 1, 2, 3};
        for (int what = 0; what <= 8; what++) {
            CHECK.due("count(" + what + ")", x.count(what), want[what]);
        }
    }

    private static void findings() {
        MeshWorlds x = new MeshWorlds();
        CHECK.refused(x, "findings(0)", MeshWorlds.BAD, () -> x.findings(0));
        CHECK.refused(x, "findings(6)", MeshWorlds.BAD, () -> x.findings(6));
        CHECK.refused(x, "findings(MIN)", MeshWorlds.BAD, () -> x.findings(Integer.MIN_VALUE));
        CHECK.due("finding() before", x.finding(), 0);
        x.tear(0);
        x.row(0, 0);
        x.average(0);
        x.lay(0, 0, 0);
        x.lay(0, 0, 0);
        x.edge(0, true);
        x.row(0, -1);
        x.row(6, 0);
        int[] want = {0, 1, 2, 1, 1, 1};
        for (int f = 1; f <= 5; f++) {
            CHECK.due("findings(" + f + ")", x.findings(f), want[f]);
        }
        CHECK.due("finding()", x.finding(), 5);
    }

    private static void digests() {
        MeshWorlds first = new MeshWorlds();
        CHECK.due("digest() at first", first.digest(), byHand(first, new long[] {0, 1, 0, -1, -1, 0, 0},
                new long[] {-1, -1, -1, -1, -1, -1}, new long[] {-1, -1, -1, -1}));
        MeshWorlds x = new MeshWorlds();
        x.row(1, 2);
        x.lay(1, 0, -5);
        x.lay(1, 1, 9);
        x.text(0, 3);
        x.put(0, 2, 255);
        CHECK.law(x, "F1/2 O1 P300 J4");
        x.edge(0, false);
        x.amount(0, 160);
        x.amount(5, 1000);
        x.machine(3, 2);
        x.machine(4, 4);
        x.give(6, 3);
        x.keep(1);
        x.tick();
        CHECK.due("digest()", x.digest(), byHand(x, new long[] {1, 2, 1, 300, 4, x.over(0), x.over(1)},
                new long[] {-1, 2, -5, 9, -1, -1, -1, -1},
                new long[] {3, 32, 32, -1, -1, -1,
                    15, 'F', '1', '/', '2', ' ', 'O', '1', ' ', 'P', '3', '0', '0', ' ', 'J', '4'}));
        long before = x.digest();
        x.asked();
        x.told(0, 1);
        x.run(3, 4);
        x.share(0, 1, 2);
        CHECK.due("digest() again", x.digest(), before);
    }

    private static long byHand(MeshWorlds x, long[] field, long[] rows, long[] texts) {
        long h = 17;
        for (int what = 0; what <= 8; what++) {
            h = 31 * h + x.count(what);
        }
        for (int c = 0; c < 336; c++) {
            if (x.told(c, 0) == 1) {
                h = 31 * h + c;
                h = 31 * h + x.asked();
                x.told(c, 1);
                h = 31 * h + x.asked();
                x.told(c, 5);
                h = 31 * h + x.asked();
            }
        }
        for (int m = 0; m < 6; m++) {
            int kind = x.machine(m, 1);
            x.machine(m, kind);
            h = 31 * h + kind;
        }
        for (long[] part : new long[][] {field, rows, texts}) {
            for (long v : part) {
                h = 31 * h + v;
            }
        }
        return h;
    }
}
