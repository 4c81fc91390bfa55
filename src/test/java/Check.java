import java.util.function.LongSupplier;

/** What the tests share: answers compared, refusals looked at from all sides, texts written. */
final class Check {
    static final int NOTHING = 1, BEYOND = 2, UNLIKE = 3, NOUGHT = 4, SIZE = 5;

    private final String name;
    private int wrong;
    private int looked;

    Check(String name) {
        this.name = name;
    }

    void due(String call, long got, long want) {
        looked++;
        if (got != want) {
            wrong++;
            System.out.println(name + ": " + call + " answered " + got + ", due is " + want);
        }
    }

    /** The call answers BAD or STATE, and nothing has changed. */
    void refused(MeshWorlds x, String call, int want, LongSupplier made) {
        String before = allOf(x) + ' ' + x.finding();
        due(call, made.getAsLong(), want);
        same(call, before, allOf(x) + ' ' + x.finding());
    }

    /** The call answers FINDING, and nothing has changed but finding() and findings() of this one. */
    void finds(MeshWorlds x, String call, int finding, LongSupplier made) {
        String before = allOf(x);
        int often = x.findings(finding);
        due(call, made.getAsLong(), MeshWorlds.FINDING);
        same(call, before, allOf(x));
        due(call + " and finding()", x.finding(), finding);
        due(call + " and findings(" + finding + ")", x.findings(finding), often + 1);
    }

    private void same(String call, String before, String after) {
        looked++;
        if (!before.equals(after)) {
            wrong++;
            System.out.println(name + ": " + call + " was refused, but changed something");
        }
    }

    /**
     * What tells most by few calls: an object is promised for 512 of them only.
     * BoundsTest looks at all the rest, on twins.
     */
    private static String allOf(MeshWorlds x) {
        return x.digest() + " " + x.asked() + ' ' + x.upper() + '/' + x.lower();
    }

    static void write(MeshWorlds x, int t, String signs) {
        x.text(t, signs.length());
        for (int i = 0; i < signs.length(); i++) {
            x.put(t, i, signs.charAt(i));
        }
    }

    /** The field by a text; text 3 is written over. */
    void law(MeshWorlds x, String signs) {
        write(x, 3, signs);
        due("field of '" + signs + "'", x.field(3), 1);
    }

    void tells(MeshWorlds x, int c, int what, int want) {
        due("told(" + c + ", " + what + ")", x.told(c, what), 1);
        due("asked() of told(" + c + ", " + what + ")", x.asked(), want);
    }

    void amountIs(MeshWorlds x, int c, int want) {
        tells(x, c, 1, want);
    }

    void fraction(MeshWorlds x, String call, long above, long below) {
        due(call + " upper()", x.upper(), above);
        due(call + " lower()", x.lower(), below);
    }

    void end() {
        System.out.println(name + ": " + looked + " looked at, " + wrong + " wrong");
        if (wrong != 0) {
            System.exit(1);
        }
    }
}
