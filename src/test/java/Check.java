import java.util.function.LongSupplier;

/** What the tests share: answers compared, refusals looked at from all sides, texts written. */
final class Check {
    static final int NOTHING = 1, BEYOND = 2, UNLIKE = 3, NOUGHT = 4, SIZE = 5;

    private final String name;
    private int wrong;
    private int looked;

    Check(String name) {
        this.name = name;
    }

    void due(String call, long got, long want) {
        looked++;
        if (got != want) {
            wrong++;
            System.out.println(name + ": " + call + " answered " + got + ", due is " + want);
        }
    }

    /** The call answers BAD or STATE, and nothing at all has changed. */
    void refused(MeshWorlds x, String call, int want, LongSupplier made) {
        String before = allOf(x) + findingsOf(x);
        due(call, made.getAsLong(), want);
        same(call, before, allOf(x) + findingsOf(x));
    }

    /** The call answers FINDING, and nothing has changed but finding() and findings() of this one. */
    void finds(MeshWorlds x, String call, int finding, LongSupplier made) {
        String before = allOf(x);
        int[] counts = new int[6];
        for (int f = 1; f <= 5; f++) {
            counts[f] = x.findings(f);
        }
        due(call, made.getAsLong(), MeshWorlds.FINDING);
        same(call, before, allOf(x));
        due(call + " and finding()", x.finding(), finding);
        for (int f = 1; f <= 5; f++) {
            due(call + " and findings(" + f + ")", x.findings(f), counts[f] + (f == finding ? 1 : 0));
        }
    }

    private void same(String call, String before, String after) {
        looked++;
        if (!before.equals(after)) {
            wrong++;
            System.out.println(name + ": " + call + " was refused, but changed something");
        }
    }

    /** All that can be told without a call that could be refused. */
    static String allOf(MeshWorlds x) {
        StringBuilder all = new StringBuilder();
        all.append(x.digest()).append(' ').append(x.asked()).append(' ').append(x.upper()).append('/').append(x.lower());
        for (int m = 0; m < 6; m++) {
            all.append(' ').append(x.ran(m, 0)).append(' ').append(x.ran(m, 1));
        }
        return all.toString();
    }

    private static String findingsOf(MeshWorlds x) {
        StringBuilder all = new StringBuilder();
        all.append(" | ").append(x.finding());
        for (int f = 1; f <= 5; f++) {
            all.append(' ').append(x.findings(f));
        }
        return all.toString();
    }

    static void write(MeshWorlds x, int t, String signs) {
        x.text(t, signs.length());
        for (int i = 0; i < signs.length(); i++) {
            x.put(t, i, signs.charAt(i));
        }
    }

    /** The field by a text; text 3 is written over. */
    void law(MeshWorlds x, String signs) {
        write(x, 3, signs);
        due("field of '" + signs + "'", x.field(3), 1);
    }

    void tells(MeshWorlds x, int c, int what, int want) {
        due("told(" + c + ", " + what + ")", x.told(c, what), 1);
        due("asked() of told(" + c + ", " + what + ")", x.asked(), want);
    }

    void amountIs(MeshWorlds x, int c, int want) {
        tells(x, c, 1, want);
    }

    void fraction(MeshWorlds x, String call, long above, long below) {
        due(call + " upper()", x.upper(), above);
        due(call + " lower()", x.lower(), below);
    }

    void end() {
        System.out.println(name + ": " + looked + " looked at, " + wrong + " wrong");
        if (wrong != 0) {
            System.exit(1);
        }
    }
}
