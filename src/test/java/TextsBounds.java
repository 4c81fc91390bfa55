/** Promises 7 to 10, sentence by sentence: texts and the field in them. */
final class TextsBounds {
    private static final String BLANKS = "with blanks (32) between, ahead, behind as many as wanted";
    private static final String GIVES = "(n 0 .. 99, m 1 .. 99, n no more than m; one or two digits each)";
    private static final String RIM = "O (79) n: 1 open, 0 shut (one digit)";
    private static final String MARKS = "P (80) n, J (74) n: marks (one to six digits; P above 0)";
    private static final String FIRST_PLACE = "A FAULT is the first place at which it can't go on so";
    private static final String EARLY_END = "the TEXT's size, if its end comes too early";
    private static final String BEHIND = "m 0, n above m, P 0: the place behind that number";

    private TextsBounds() {
    }

    static void all() {
        text();
        textRefused();
        put();
        putRefused();
        blanks();
        gives();
        rimAndMarks();
        faults();
        faultRefused();
        field();
        fieldRefused();
    }

    private static void text() {
        Run full = Run.test(7, "A TEXT is there with n blanks: n").due("text(0, 40)", 40).due("count(8)", 1);
        for (int i = 0; i < 40; i++) {
            full.due("put(0, " + i + ", 65)", 1032);
        }
        Run.test(7, "A TEXT is there with n blanks: n").due("text(3, 0)", 0).due("count(8)", 1)
                .due("fault(3)", MeshWorlds.NONE);
        Run.test(7, "A TEXT is there with n blanks: n").due("text(2, 1)", 1).due("put(2, 0, 65)", 1032);
        // one that is there is made anew, shorter or longer
        Run.test(7, "A TEXT is there with n blanks: n").make("text(1, 40)", "put(1, 0, 65)", "put(1, 39, 66)")
                .due("text(1, 1)", 1).due("put(1, 0, 65)", 1032).due("text(1, 40)", 40).due("put(1, 39, 65)", 1032)
                .due("count(8)", 1);
        // its neighbours stay
        Run.test(7, "A TEXT is there with n blanks: n")
                .make("text(0, 40)", "put(0, 39, 65)", "text(2, 1)", "put(2, 0, 66)").due("text(1, 40)", 40)
                .due("put(0, 39, 0)", 1065).due("put(2, 0, 0)", 1066);
        Run.test(7, "or missing (at first)")
                .finds(Run.NOTHING, "put(0, 0, 1)", "put(1, 0, 1)", "put(2, 0, 1)", "put(3, 0, 1)");
    }

    private static void textRefused() {
        Run.test(7, "TEXTS 0 .. 3 rows of 0 to 40 bytes").due("text(0, 0)", 0).due("text(3, 40)", 40)
                .bad("text(-1, 1)", "text(4, 1)", "text(MIN, 1)", "text(MAX, 1)", "text(5, 1)");
        Run.test(7, "BAD: also n above 40").due("text(0, 40)", 40).bad("text(0, 41)", "text(1, 41)", "text(0, MAX)");
        Run.test(7, "SIZE: below 0").due("text(0, 0)", 0).finds(Run.SIZE, "text(0, -1)", "text(3, -1)", "text(0, MIN)");
        Run.test(7, "SIZE: below 0").write(2, "O1").finds(Run.SIZE, "text(2, -1)").due("put(2, 0, 0)", 1000 + 'O');
        Run.test(7, "the first of these that fits, in this order").bad("text(4, -1)", "text(-1, MIN)", "text(4, 41)");
    }

    private static void put() {
        Run.test(8, "Byte i of a TEXT is v, cut to a byte: what it was, and 1000 more").make("text(0, 2)")
                .due("put(0, 1, 127)", 1032).due("put(0, 1, 128)", 1127).due("put(0, 1, 255)", 1000 - 128)
                .due("put(0, 1, 256)", 999).due("put(0, 1, 257)", 1000).due("put(0, 1, -1)", 1001)
                .due("put(0, 1, -128)", 999).due("put(0, 1, -129)", 1000 - 128).due("put(0, 1, MAX)", 1127)
                .due("put(0, 1, MIN)", 999).due("put(0, 1, 0)", 1000).due("put(0, 0, 0)", 1032);
        // a byte that was cut is as good as another: 326 is F
        Run.test(8, "cut to a byte")
                .make("text(0, 4)", "put(0, 0, 326)", "put(0, 1, 305)", "put(0, 2, -209)", "put(0, 3, 50)")
                .due("fault(0)", MeshWorlds.NONE).due("field(0)", 1);
        Run.test(8, "Byte i of a TEXT is v, cut to a byte: what it was, and 1000 more")
                .make("text(0, 40)", "text(1, 40)").due("put(0, 39, 70)", 1032).due("put(1, 0, 71)", 1032)
                .due("put(0, 39, 1)", 1070);
    }

    private static void putRefused() {
        Run.test(8, "BAD").make("text(0, 1)", "text(3, 1)").due("put(0, 0, 1)", 1032).due("put(3, 0, 1)", 1032)
                .bad("put(-1, 0, 1)", "put(4, 0, 1)", "put(MIN, 0, 1)", "put(MAX, 0, 1)");
        Run.test(8, "the first of these that fits, in this order").bad("put(4, -1, 1)", "put(-1, 40, 1)");
        Run.test(8, "NOTHING").make("text(1, 1)")
                .finds(Run.NOTHING, "put(0, 0, 1)", "put(3, 0, 1)", "put(2, 40, 1)", "put(2, -1, 1)");
        Run.test(8, "BEYOND").make("text(0, 3)").due("put(0, 2, 65)", 1032).due("put(0, 0, 65)", 1032)
                .finds(Run.BEYOND, "put(0, 3, 1)", "put(0, -1, 1)", "put(0, 40, 1)", "put(0, MAX, 1)",
                "put(0, MIN, 1)");
        Run.test(8, "BEYOND").make("text(0, 0)").finds(Run.BEYOND, "put(0, 0, 1)", "put(0, -1, 1)");
        Run.test(8, "BEYOND").make("text(0, 40)", "text(1, 40)").due("put(0, 39, 65)", 1032)
                .finds(Run.BEYOND, "put(0, 40, 1)", "put(1, -1, 1)");
        Run.test(8, "BEYOND").make("text(0, 40)", "text(0, 2)").finds(Run.BEYOND, "put(0, 2, 1)", "put(0, 39, 1)");
    }

    /** Both calls read alike: the one tells the place, the other is refused or takes the field. */
    private static void fault(String said, String signs, int want) {
        Run.test(9, said).write(0, signs).due("fault(0)", want).changesNothing("fault(0)");
        if (want == MeshWorlds.NONE) {
            Run.test(10, said).write(0, signs).due("field(0)", 1);
        } else {
            Run.test(10, said).law("F1/3 O1 P9 J8").write(0, signs).state("field(0)");
        }
    }

    private static void fine(String said, String signs) {
        fault(said, signs, MeshWorlds.NONE);
    }

    private static void blanks() {
        fine(BLANKS, "");
        fine(BLANKS, " ");
        fine(BLANKS, " ".repeat(40));
        fine(BLANKS, "F1/2O1P7J8");
        fine(BLANKS, "  F1/2   O1 P7  J8   ");
        fine(BLANKS, " ".repeat(36) + "F1/2");
        fine(BLANKS, "F1/2" + " ".repeat(36));
        fine(BLANKS, "J8P7O1F1/2J8P7O1F1/2J8P7O1F1/2J8P7O1F1/2");
        // none within an item
        fault(BLANKS, "F 1/2", 1);
        fault(BLANKS, "F1 /2", 2);
        fault(BLANKS, "F1/ 2", 3);
        fault(BLANKS, "O 1", 1);
        fault(BLANKS, "P 1", 1);
        fault(BLANKS, "J 1", 1);
        // another sign that looks like one
        fault(BLANKS, "\t", 0);
        fault(BLANKS, "O1\nO1", 2);
        Run.test(9, BLANKS).make("text(0, 2)", "put(0, 1, 0)").due("fault(0)", 1).make("put(0, 1, 160)")
                .due("fault(0)", 1).make("put(0, 1, 288)").due("fault(0)", MeshWorlds.NONE);
    }

    private static void gives() {
        fine(GIVES, "F0/1");
        fine(GIVES, "F99/99");
        fine(GIVES, "F0/99");
        fine(GIVES, "F1/1");
        fine(GIVES, "F98/99");
        fine(GIVES, "F00/01");
        fine(GIVES, "F9/10");
        fine(GIVES, "F09/9");
        fault(GIVES, "F99/98", 6);
        fault(GIVES, "F10/9", 5);
        fault(GIVES, "F2/1", 4);
        fault(GIVES, "F1/0", 4);
        fault(GIVES, "F0/0", 4);
        fault(GIVES, "F0/00", 5);
        fault(GIVES, "F100/99", 3);
        fault(GIVES, "F000/1", 3);
        fault(GIVES, "F1/100", 5);
        fault(GIVES, "F1/010", 5);
        fault(GIVES, "F/1", 1);
        fault(GIVES, "F-1/1", 1);
        fault(GIVES, "F1/-1", 3);
        fault(GIVES, "F1/", 3);
        fault(GIVES, "F1:2", 2);
        fault(GIVES, "F1/2/3", 4);
        // the signs beside the digits 0 and 9
        fault(GIVES, "F:/1", 1);
        fault(GIVES, "F//1", 1);
        fault(GIVES, "F1/:", 3);
        fault(GIVES, "F1//", 3);
    }

    private static void rimAndMarks() {
        fine(RIM, "O0");
        fine(RIM, "O1");
        fault(RIM, "O2", 1);
        fault(RIM, "O9", 1);
        fault(RIM, "O/", 1);
        fault(RIM, "O", 1);
        fault(RIM, "O00", 2);
        fault(RIM, "O11", 2);
        fault(RIM, "O-1", 1);
        fine(MARKS, "P1");
        fine(MARKS, "P000001");
        fine(MARKS, "P999999");
        fine(MARKS, "J0");
        fine(MARKS, "J000000");
        fine(MARKS, "J999999");
        fault(MARKS, "P0", 2);
        fault(MARKS, "P000000", 7);
        fault(MARKS, "P0000001", 7);
        fault(MARKS, "P1000000", 7);
        fault(MARKS, "J1000000", 7);
        fault(MARKS, "J0000000", 7);
        fault(MARKS, "P", 1);
        fault(MARKS, "J", 1);
        fault(MARKS, "P-1", 1);
        fault(MARKS, "J-1", 1);
        fault(MARKS, "P/", 1);
        fault(MARKS, "P:", 1);
        fault(MARKS, "J1/", 2);
        fault(MARKS, "J1:", 2);
    }

    private static void faults() {
        fault(FIRST_PLACE, "X", 0);
        fault(FIRST_PLACE, "f1/2", 0);
        fault(FIRST_PLACE, "1", 0);
        fault(FIRST_PLACE, "/", 0);
        fault(FIRST_PLACE, "O1X", 2);
        fault(FIRST_PLACE, "  X", 2);
        fault(FIRST_PLACE, "O2P0", 1);
        fault(FIRST_PLACE, "X P0", 0);
        fault(FIRST_PLACE, " ".repeat(39) + "X", 39);
        // the signs beside each of the four
        for (char sign : "EGNPIKOQ".toCharArray()) {
            if ("FOPJ".indexOf(sign) < 0) {
                fault(FIRST_PLACE, sign + "1/2", 0);
            }
        }
        for (int sign = 0; sign < 256; sign++) {
            boolean begins = sign == ' ' || "FOPJ".indexOf(sign) >= 0;
            Run.test(9, FIRST_PLACE).make("text(0, 1)", "put(0, 0, " + sign + ")")
                    .due("fault(0)", sign == ' ' ? MeshWorlds.NONE : begins ? 1 : 0);
        }
        fault(EARLY_END, "F", 1);
        fault(EARLY_END, "F1", 2);
        fault(EARLY_END, "F12", 3);
        fault(EARLY_END, "F12/", 4);
        fault(EARLY_END, "O", 1);
        fault(EARLY_END, "P", 1);
        fault(EARLY_END, "J", 1);
        fault(EARLY_END, " ".repeat(39) + "F", 40);
        fault(EARLY_END, " ".repeat(37) + "F1/", 40);
        // a shorter text's end, though more stood behind it once, and the next text goes on
        Run.test(9, EARLY_END).write(0, "F1/2").write(0, "F").write(1, "1/2").due("fault(0)", 1);
        Run.test(9, EARLY_END).write(0, " ".repeat(39) + "F").write(1, "1/2").due("fault(0)", 40);
        fault(BEHIND, "F1/0", 4);
        fault(BEHIND, "F1/00", 5);
        fault(BEHIND, "F1/0 O1", 4);
        fault(BEHIND, "F3/2", 4);
        fault(BEHIND, "F3/02", 5);
        fault(BEHIND, "F21/12 O1", 6);
        fault(BEHIND, "P0", 2);
        fault(BEHIND, "P00 J1", 3);
        fault(BEHIND, "P0P5", 2);
        fault(BEHIND, "P5P0", 4);
        fault(BEHIND, "F2/1F1/2", 4);
    }

    private static void faultRefused() {
        Run.test(9, "A FAULT of a TEXT").write(0, "O1").write(3, "P0").due("fault(0)", MeshWorlds.NONE)
                .due("fault(3)", 2);
        Run.test(9, "NONE: there is none").write(0, "O1").none("fault(0)").make("text(1, 0)").none("fault(1)");
        Run.test(9, "BAD").make("text(0, 1)", "text(3, 1)").bad("fault(-1)", "fault(4)", "fault(MIN)", "fault(MAX)");
        Run.test(9, "NOTHING").make("text(1, 1)").finds(Run.NOTHING, "fault(0)", "fault(2)", "fault(3)");
    }

    /** Two texts make the same field; the texts themselves are blank then, so that only the field can differ. */
    private static void sameField(String said, String one, String other) {
        Run.test(10, said).law(one).make("text(3, 0)").alike("digest()", calls(other));
    }

    private static void otherField(String said, String one, String other) {
        Run.test(10, said).law(one).make("text(3, 0)").unlike("digest()", calls(other));
    }

    private static String[] calls(String signs) {
        StringBuilder calls = new StringBuilder("text(3, " + signs.length() + ")");
        for (int i = 0; i < signs.length(); i++) {
            calls.append(";put(3, ").append(i).append(", ").append((int) signs.charAt(i)).append(')');
        }
        return (calls + ";field(3);text(3, 0)").split(";");
    }

    private static void field() {
        String said = "THE FIELD by a TEXT (anew): 1";
        otherField(said, "F1/2", "F1/3");
        otherField(said, "F1/2", "F2/4");
        otherField(said, "O1", "O0");
        otherField(said, "P1", "P2");
        otherField(said, "P1", "");
        otherField(said, "J0", "");
        otherField(said, "J1", "J0");
        sameField(said, "J000012 P000034 O1 F01/02", "F1/2O1P34J12");
        String last = "Of alike items the last counts";
        sameField(last, "F1/1 F1/2", "F1/2");
        sameField(last, "F1/2 O1 F3/4", "O1 F3/4");
        sameField(last, "O1O0", "O0");
        sameField(last, "O0O1", "O1");
        sameField(last, "P5P6P4", "P4");
        sameField(last, "J5J6J0", "J0");
        sameField(last, "F1/2F0/1", "");
        String first = "those that there are not are as at first: F 0/1, O 0, P, J none";
        sameField(first, "", "F0/1 O0");
        sameField(first, "P7", "F0/1 O0 P7");
        sameField(first, "F1/2", "F1/2 O0");
        Run.test(10, first).law("").make("text(3, 0)").alike("digest()", "text(3, 0)");
        Run.test(10, first).law("F1/2 O1 P5 J6").law("").make("text(3, 0)").alike("digest()", "text(3, 0)");
        Run.test(10, first).law("F1/2 O1 P5 J6").law("J7").make("text(3, 0)").alike("digest()", calls("J7"));
        Run.test(10, first).law("F1/2 O1 P5 J6").law("F2/3").make("text(3, 0)").alike("digest()", calls("F2/3"));
        // no field is told at first: nothing flows, leaves, is PARTED or JOINED
        Run.test(10, first).make("amount(0, 1000000)", "part(5)").due("tick()", 0).amountIs(0, 1000000)
                .due("over(0)", 0).due("count(1)", 19);
        // the text may change behind the call: the field stays
        Run.test(10, said).law("F1/1").make("text(3, 40)", "amount(5, 16)", "tick()").due("flow(5, 6)", 4);
    }

    private static void fieldRefused() {
        Run.test(10, "BAD").write(0, "O1").write(3, "O1").due("field(0)", 1).due("field(3)", 1)
                .bad("field(-1)", "field(4)", "field(MIN)", "field(MAX)");
        Run.test(10, "NOTHING").write(1, "O1").finds(Run.NOTHING, "field(0)", "field(2)", "field(3)");
        Run.test(10, "STATE: a FAULT").law("F1/2 P7").write(0, "F1/3 O1 P9 J1 P0").state("field(0)")
                .make("text(0, 0)", "text(3, 0)").alike("digest()", join(calls("F1/2 P7"), "text(0, 0)"));
        Run.test(10, "STATE: a FAULT").write(0, "X").state("field(0)");
        Run.test(10, "(STATE behind NOTHING.)").write(0, "X").finds(Run.NOTHING, "field(1)").state("field(0)");
    }

    private static String[] join(String[] calls, String last) {
        String[] all = java.util.Arrays.copyOf(calls, calls.length + 1);
        all[calls.length] = last;
        return all;
    }
}
