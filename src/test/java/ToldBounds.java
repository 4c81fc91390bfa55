import java.util.ArrayList;
import java.util.List;

/** Promises 45 to 51 and what holds for all calls, sentence by sentence. */
final class ToldBounds {
    private ToldBounds() {
    }

    static void all() {
        asked();
        fractions();
        counts();
        countsOfCells();
        findings();
        findingsByKind();
        digest();
        digestOfAll();
        refusals();
        manyCalls();
    }

    private static void asked() {
        String said = "What the latest lay(), average(), told(), find() (a CELL) that was not refused told";
        Run.test(45, "0 before").asked(0).changesNothing("asked()");
        Run.test(45, "0 before").make("amount(0, 5)", "tick()", "lay(0, 0, 1)", "average(0)", "told(16, 0)", "find(0)")
                .asked(0);
        Run.test(45, said).make("row(0, 2)", "lay(0, 0, 12)", "lay(0, 0, 30)").asked(12)
                .make("lay(0, 2, 9)", "lay(6, 0, 9)", "lay(1, 0, 9)").asked(12).make("average(0)").asked(15)
                .make("average(1)", "average(6)", "row(1, 0)", "average(1)").asked(15).make("told(9, 4)").asked(8)
                .make("told(16, 0)", "told(0, 6)", "told(-1, 0)").asked(8).make("keep(0)", "flip(1, 4)", "find(0)")
                .asked(16).make("find(1)", "find(2)").asked(16);
        Run.test(45, "find() (a CELL)").make("told(15, 3)", "keep(0)", "find(0)").asked(12)
                .make("flip(1, 4)", "flip(2, 4)", "find(0)").asked(12).make("flip(1, 4)", "find(0)").asked(16)
                .make("part(0)", "find(0)").asked(16);
        // no other call tells by it
        Run others = Run.test(45, said).make("told(15, 3)").law("F1/1 O1 P5 J3").make("row(2, 3)",
                "copy(2, 0, 2, 1, 1)", "amount(0, 7)", "fault(3)", "tick()", "mark(0, 1)", "at(0, 0)")
                .make("part(1)", "join(1)", "edge(2, false)", "freeze(3, false)", "flow(0, 1)", "sum()", "top()",
                "over(0)", "machine(1, 1)", "give(2, 1)", "bears(1, 1)").make("work(0)", "cuts()", "curve(1)",
                "deal(3)", "run(2, 2)", "ran(0, 0)", "keep(0)", "goOn(0)", "flip(2, 1)", "stops(0)", "keeping(1, 2, 3)",
                "best(2, 3)").make("share(2, 3, 1)", "most(2, 1)", "off(2, 1)", "upper()", "lower()", "count(1)",
                "finding()", "findings(1)", "digest()", "tear(2)");
        others.asked(12);
    }

    private static void fractions() {
        String lowest = "in lowest terms, the lower number above 0 (0 by 1)";
        Run.test(46, "0 before").due("upper()", 0)
                .make("share(16, 0, 0)", "most(0, 4)", "keeping(0, 2, 0)", "best(1, 0)").due("upper()", 0)
                .changesNothing("upper()");
        Run.test(47, "1 before").due("lower()", 1)
                .make("share(16, 0, 0)", "most(0, 4)", "keeping(0, 2, 0)", "best(1, 0)").due("lower()", 1)
                .changesNothing("lower()");
        String last = "The upper number of the fraction that was told last";
        Run.test(46, last).make("keeping(2, 2, 1)").due("upper()", 7).make("share(0, 0, 0)").due("upper()", 1)
                .make("share(0, 1, 0)").due("upper()", 0).make("most(3, 1)").due("upper()", 1).make("best(2, 3)")
                .due("upper()", 9)
                .make("share(16, 0, 0)", "share(0, 0, 4)", "most(16, 0)", "keeping(9, 2, 0)", "best(21, 0)")
                .due("upper()", 9);
        Run.test(47, "Its lower number").make("keeping(2, 2, 1)").due("lower()", 2).make("share(0, 0, 0)")
                .due("lower()", 1).make("best(2, 3)").due("lower()", 2).make("share(0, 1, 0)").due("lower()", 1)
                .make("keeping(1, 20, 0)").due("lower()", 19)
                .make("share(16, 0, 0)", "most(0, -1)", "keeping(1, 21, 0)", "best(2, 21)").due("lower()", 19);
        Run.test(47, lowest).make("share(0, 15, 3)").fraction(0, 1).law("F98/99").make("share(0, 15, 3)").fraction(0, 1)
                .make("share(0, 0, 0)").fraction(1, 1);
        // 8 by 4 times 2, 510 by 8, 22 by 1
        Run.test(46, lowest).law("F50/99").make("share(5, 5, 1)").fraction(49, 99).law("F2/4").make("share(5, 6, 1)")
                .fraction(1, 8).make("keeping(8, 2, 0)").fraction(255, 4).make("keeping(1, 2, 20)").fraction(22, 1);
    }

    private static void counts() {
        Run first = Run.test(48, "0 THE TICK (how many there were");
        int[] atFirst = {0, 16, 0, 0, 0, 0, 0, 0, 0};
        for (int what = 0; what <= 8; what++) {
            first.due("count(" + what + ")", atFirst[what]);
        }
        first.make("tick()").due("count(0)", 1).make("run(20, 0)").due("count(0)", 1);
        Run.test(48, "goOn() sets it back)").make("keep(0)", "tick()", "tick()").due("count(0)", 2).make("goOn(0)")
                .due("count(0)", 0).make("tick()", "keep(0)", "tick()", "goOn(0)").due("count(0)", 1);
        String others = "5 SPARE MACHINES, 6 KEPT states, 7 ROWS, 8 TEXTS that are there";
        Run.test(48, others).make("machine(5, 4)").due("count(5)", 1)
                .make("deal(32)", "deal(16)", "machine(0, 4)", "machine(1, 4)", "machine(2, 4)", "machine(3, 4)")
                .due("count(5)", 5).make("machine(0, 1)").due("count(5)", 4);
        Run.test(48, others).make("keep(1)").due("count(6)", 1).make("keep(1)").due("count(6)", 1).make("keep(0)")
                .due("count(6)", 2).make("goOn(0)", "find(0)").due("count(6)", 2);
        Run rows = Run.test(48, others);
        for (int r = 0; r < 6; r++) {
            rows.make("row(" + r + ", " + 8 * r + ")").due("count(7)", r + 1);
        }
        rows.make("row(0, 40)").due("count(7)", 6).make("tear(0)", "tear(5)").due("count(7)", 4).due("count(8)", 0);
        Run texts = Run.test(48, others);
        for (int t = 0; t < 4; t++) {
            texts.make("text(" + t + ", " + 13 * t + ")").due("count(8)", t + 1);
        }
        texts.make("text(0, 1)").due("count(8)", 4).due("count(7)", 0);
        Run.test(48, "BAD").due("count(0)", 0).due("count(8)", 0)
                .bad("count(-1)", "count(9)", "count(MIN)", "count(MAX)")
                .changesNothing("count(0)", "count(1)", "count(8)");
    }

    private static void countsOfCells() {
        String said = "1 CELLS, 2 FINE ones (SEEN, too), 3 FROZEN ones, 4 EDGES";
        Run.test(48, said).make("part(0)", "part(16)").due("count(1)", 22).due("count(2)", 7)
                .make("see(17, false)", "see(80, false)").due("count(2)", 7).due("count(1)", 22)
                .make("freeze(1, false)", "freeze(2, false)", "freeze(3, false)").due("count(3)", 3)
                .make("edge(4, false)", "edge(5, false)").due("count(4)", 2).due("count(1)", 22)
                .make("freeze(1, true)", "edge(4, true)").due("count(3)", 2).due("count(4)", 1)
                .make("see(80, true)", "join(16)").due("count(1)", 19).due("count(2)", 4);
        Run most = Run.test(48, said).partAll();
        most.due("count(1)", 256).due("count(2)", 256).due("count(3)", 0).due("count(4)", 0);
        Run all = Run.test(48, said);
        for (int c = 0; c < 16; c++) {
            all.make((c < 8 ? "edge(" : "freeze(") + c + ", false)");
        }
        all.due("count(1)", 16).due("count(2)", 0).due("count(3)", 8).due("count(4)", 8);
    }

    private static void findings() {
        Run.test(49, "The latest FINDING (0 before any)").due("finding()", 0).bad("row(6, 0)")
                .make("row(6, 0)", "machine(0, 4)", "curve(16)").due("finding()", 0).make("tear(0)").due("finding()", 1)
                .make("row(0, -1)").due("finding()", 5)
                .make("row(6, 0)", "row(0, 0)", "deal(0)", "machine(0, 4)", "count(9)").due("finding()", 5)
                .make("average(0)").due("finding()", 4).make("lay(0, 0, 0)").due("finding()", 2).make("edge(0, true)")
                .due("finding()", 3).changesNothing("finding()");
        Run often = Run.test(50, "How often a FINDING (1 .. 5) was answered");
        for (int f = 1; f <= 5; f++) {
            often.due("findings(" + f + ")", 0);
        }
        often.make("tear(0)", "tear(0)", "tear(0)", "tear(6)", "row(0, 0)", "lay(0, 0, 0)", "average(0)", "average(0)",
                "edge(0, true)", "row(0, -1)", "row(0, -1)", "row(0, -1)", "row(0, -1)");
        int[] want = {0, 3, 1, 1, 2, 4};
        for (int f = 1; f <= 5; f++) {
            often.due("findings(" + f + ")", want[f]);
        }
        Run many = Run.test(50, "How often a FINDING (1 .. 5) was answered");
        for (int i = 0; i < 300; i++) {
            many.make("tear(0)");
        }
        many.due("findings(1)", 300);
        Run.test(50, "BAD").due("findings(1)", 0).due("findings(5)", 0)
                .bad("findings(0)", "findings(6)", "findings(-1)", "findings(MIN)", "findings(MAX)")
                .changesNothing("findings(1)", "findings(5)");
        // going back does not take them back
        Run.test(50, "How often a FINDING (1 .. 5) was answered").make("keep(0)", "tear(0)", "goOn(0)")
                .due("findings(1)", 1).due("finding()", 1);
    }

    private static void findingsByKind() {
        Run.test(49, "1 NOTHING (a ROW, a TEXT, a CELL, a kept state that is missing)")
                .finds(Run.NOTHING, "tear(0)", "fault(0)", "part(16)", "goOn(0)");
        Run.test(49, "2 BEYOND (a place that there is not; an amount that would be beyond)")
                .make("row(0, 1)", "text(0, 1)", "amount(0, 1000000)")
                .finds(Run.BEYOND, "lay(0, 1, 0)", "put(0, 1, 0)", "flip(0, 0)");
        Run.test(49, "3 UNLIKE (a CELL, a MACHINE of another KIND; a number that is none)")
                .make("row(0, 16)", "lay(0, 3, -1)")
                .finds(Run.UNLIKE, "mark(0, 1)", "bears(0, 1)", "fill(0)", "see(0, false)");
        Run.test(49, "4 NOUGHT (shared among none)").make("row(0, 0)").finds(Run.NOUGHT, "average(0)");
        Run.test(49, "5 SIZE (fewer than none; not as many as due)").make("row(0, 15)")
                .finds(Run.SIZE, "row(1, -1)", "text(0, -1)", "copy(0, 0, 0, 0, -1)", "fill(0)");
    }

    private static long fold(List<Long> numbers) {
        long h = 17;
        for (long v : numbers) {
            h = 31 * h + v;
        }
        return h;
    }

    private static void add(List<Long> numbers, long... more) {
        for (long v : more) {
            numbers.add(v);
        }
    }

    private static void digest() {
        List<Long> first = new ArrayList<>();
        add(first, 0, 16, 0, 0, 0, 0, 0, 0, 0);
        for (int c = 0; c < 16; c++) {
            add(first, c, 0, 0, 0);
        }
        add(first, 0, 0, 0, 0, 0, 0, 0, 1, 0, -1, -1, 0, 0, -1, -1, -1, -1, -1, -1, -1, -1, -1, -1);
        Run.test(51, "h = 17; then h = 31 h + v for each v").due("digest()", fold(first)).changesNothing("digest()")
                .due("digest()", fold(first));
        // calls that only tell leave it; a refused one, too
        Run.test(51, "count() 0 to 8").make("run(3, 3)", "share(0, 1, 1)", "told(3, 3)", "tear(0)", "flow(0, 1)",
                "curve(3)", "cuts()", "most(0, 1)").due("digest()", fold(first));
        List<Long> rows = new ArrayList<>();
        add(rows, 0, 16, 0, 0, 0, 0, 0, 3, 2);
        for (int c = 0; c < 16; c++) {
            add(rows, c, 0, 0, 0);
        }
        // rows 0 (none in it), 1 and 5; texts 0 (none in it) and 3, whose bytes are below 0, too
        add(rows, 0, 0, 0, 0, 0, 0, 0, 1, 0, -1, -1, 0, 0, 0, 2, Integer.MIN_VALUE, Integer.MAX_VALUE, -1, -1, -1, 1,
                -7, 0, -1, -1, 3, 32, -1, -128);
        Run.test(51, "of each ROW its size (-1: missing) and places, of each TEXT likewise")
                .make("row(0, 0)", "row(1, 2)", "row(5, 1)", "lay(1, 0, MIN)", "lay(1, 1, MAX)", "lay(5, 0, -7)")
                .make("text(0, 0)", "text(3, 3)", "put(3, 1, 255)", "put(3, 2, 128)").due("digest()", fold(rows))
                .make("row(2, 3)", "tear(2)", "text(3, 40)", "text(3, 3)", "put(3, 1, 255)", "put(3, 2, 128)")
                .due("digest()", fold(rows));
    }

    private static void digestOfAll() {
        List<Long> all = new ArrayList<>();
        // one TICK, 16 + 3 + 3 CELLS, 7 FINE, 1 FROZEN, 1 EDGE, 1 SPARE, 1 KEPT, no ROW, one TEXT
        add(all, 1, 22, 7, 1, 1, 1, 1, 0, 1);
        for (int c = 1; c < 16; c++) {
            add(all, c, c == 5 ? 3 : c == 10 ? 4 : 0, c == 5 ? 1000000 : c == 10 ? 9 : 0, c == 15 ? 4 : 0);
        }
        add(all, 17, 2, 7, 0, 18, 1, 0, 0, 19, 1, 0, 0, 80, 1, 1, 2, 81, 1, 0, 2, 82, 1, 0, 2, 83, 1, 0, 2);
        add(all, 0, 1, 2, 3, 0, 4, 0, 99, 1, 999999, 0, 0, 0, -1, -1, -1, -1, -1, -1, -1, -1, -1, 20);
        String law = "F0/99 O1 P999999 J00";
        for (char sign : law.toCharArray()) {
            add(all, sign);
        }
        Run.test(51, "by rising NAMES of each CELL that is there NAME, told() 0, 1, 5").law(law)
                .make("part(0)", "see(17, false)", "edge(5, false)", "freeze(10, false)", "amount(5, 1000000)")
                .make("amount(10, 9)", "give(15, 4)", "give(16, 2)", "amount(16, 1)", "part(16)", "amount(17, 7)",
                "machine(1, 1)", "machine(2, 2)", "machine(3, 3)", "machine(5, 4)").make("keep(1)", "tick()")
                .due("digest()", fold(all));
        // over() 0, 1: a corner's EDGE gives 8 and 8
        List<Long> over = new ArrayList<>();
        add(over, 1, 16, 0, 0, 1, 0, 0, 0, 1);
        for (int c = 0; c < 16; c++) {
            add(over, c, c == 0 ? 3 : 0, c == 0 ? 16 : c == 1 || c == 4 ? 4 : 0, 0);
        }
        add(over, 0, 0, 0, 0, 0, 0, 1, 1, 1, -1, -1, 8, 16, -1, -1, -1, -1, -1, -1, -1, -1, -1, 0);
        Run.test(51, "THE FIELD n, m, O, P, J (-1: none); over() 0, 1").law("F1/1O1")
                .make("text(3, 0)", "edge(0, false)", "amount(0, 16)", "tick()").due("digest()", fold(over));
        Run.test(51, "of each MACHINE its KIND").unlike("digest()", "machine(0, 1)").unlike("digest()", "machine(5, 1)")
                .unlike("digest()", "machine(5, 2)");
    }

    private static void refusals() {
        Run.test(2, "What is refused changes nothing but finding(), findings()")
                .make("row(0, 3)", "lay(0, 0, 5)", "keep(0)", "run(1, 1)", "share(0, 1, 1)").law("F1/2").make("tick()")
                .bad("row(0, 41)").finds(Run.SIZE, "row(0, -1)").finds(Run.BEYOND, "lay(0, 3, 1)")
                .state("machine(0, 4)");
        Run.test(49, "FINDING -3 (finding() tells which)").due("tear(0)", MeshWorlds.FINDING).due("finding()", 1)
                .due("row(0, -1)", -3).due("finding()", 5);
        Run.test(31, "NONE -9").due("curve(16)", -9).due("ran(0, 1)", -9).make("text(0, 0)", "keep(0)")
                .due("fault(0)", -9).due("find(0)", -9);
        Run.test(26, "STATE -4 (not now)").due("machine(0, 4)", -4).due("stops(0)", -4);
        Run.test(2, "BAD -1 (a number that is none, or not as told)").due("row(6, 0)", -1).due("row(0, 41)", -1);
    }

    /** The last call that is promised, and one that makes all 512. */
    private static void manyCalls() {
        Run ticks = Run.test(48, "0 THE TICK (how many there were");
        for (int i = 0; i < 511; i++) {
            ticks.make("tick()");
        }
        ticks.due("count(0)", 511);
        Run cells = Run.test(16, "A CELL is PARTED: the NAME of the first one");
        for (int round = 0; round < 3; round++) {
            for (int c = 0; c < 80; c++) {
                cells.due("part(" + c + ")", 16 + 4 * c);
            }
            for (int c = 79; c >= 0; c--) {
                cells.due("join(" + c + ")", 0);
            }
        }
        cells.due("count(1)", 16).alike("digest()");
    }
}
