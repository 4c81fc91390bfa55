import java.lang.reflect.InvocationTargetException;
import java.lang.reflect.Method;
import java.util.ArrayList;
import java.util.Arrays;
import java.util.Collections;
import java.util.HashMap;
import java.util.List;
import java.util.Map;
import java.util.Set;
import java.util.TreeSet;

/**
 * One test of one sentence of the document: a run of calls on a new object. The calls are told as texts,
 * so that they can be made again on a twin: a refused call is made on one twin, not on the other, and
 * then all that can be asked of the two is compared.
 */
final class Run {
    static final int NOTHING = 1, BEYOND = 2, UNLIKE = 3, NOUGHT = 4, SIZE = 5;

    /** What later calls on one object answer is free, so no test may look at them. */
    private static final int MOST_CALLS = 512;
    private static final String[] FINDINGS = {"", "NOTHING", "BEYOND", "UNLIKE", "NOUGHT", "SIZE"};
    private static final List<Run> ALL = new ArrayList<>();
    private static final Map<String, Call> PARSED = new HashMap<>();
    private static final Map<String, Method> FACE = new HashMap<>();

    private static final class Call {
        final Method method;
        final Object[] arguments;

        Call(Method method, Object[] arguments) {
            this.method = method;
            this.arguments = arguments;
        }
    }

    final int promise;
    final String sentence;
    final Set<String> refusals = new TreeSet<>();
    private final List<String> calls = new ArrayList<>();
    private final MeshWorlds x = new MeshWorlds();
    private final List<String> faults = new ArrayList<>();
    private int looked;
    /** The questions to a twin without the refused call, and its answers; kept until the run goes on. */
    private List<List<String>> questions;
    private List<List<Long>> plain;

    private Run(int promise, String sentence) {
        this.promise = promise;
        this.sentence = sentence;
        ALL.add(this);
    }

    static Run test(int promise, String sentence) {
        return new Run(promise, sentence);
    }

    static List<Run> all() {
        return Collections.unmodifiableList(ALL);
    }

    List<String> faults() {
        return faults;
    }

    int looked() {
        return looked;
    }

    /** Calls whose answers are looked at elsewhere. */
    Run make(String... made) {
        for (String call : made) {
            answer(call);
        }
        return this;
    }

    /** All 256 CELLS of side 1. */
    Run partAll() {
        for (int c = 0; c < 80; c++) {
            make("part(" + c + ")");
        }
        return this;
    }

    Run due(String call, long want) {
        return holds(call, answer(call), want);
    }

    Run asked(long want) {
        return due("asked()", want);
    }

    Run fraction(long above, long below) {
        return due("upper()", above).due("lower()", below);
    }

    Run tells(int c, int what, int want) {
        return due("told(" + c + ", " + what + ")", 1).asked(want);
    }

    Run amountIs(int c, int want) {
        return tells(c, 1, want);
    }

    /** The row's first places; laying the same number anew leaves them. */
    Run rowIs(int r, int... want) {
        for (int i = 0; i < want.length; i++) {
            due("lay(" + r + ", " + i + ", " + want[i] + ")", 1).asked(want[i]);
        }
        return this;
    }

    Run write(int t, String signs) {
        make("text(" + t + ", " + signs.length() + ")");
        for (int i = 0; i < signs.length(); i++) {
            if (signs.charAt(i) != ' ') {
                make("put(" + t + ", " + i + ", " + (int) signs.charAt(i) + ")");
            }
        }
        return this;
    }

    /** The field by text 3. */
    Run law(String signs) {
        return write(3, signs).due("field(3)", 1);
    }

    /** The question is answered as by a new object with the other calls. */
    Run alike(String question, String... others) {
        List<String> other = new ArrayList<>(Arrays.asList(others));
        return due(question, answers(other, List.of(question)).get(0));
    }

    Run unlike(String question, String... others) {
        long far = answers(new ArrayList<>(Arrays.asList(others)), List.of(question)).get(0);
        looked++;
        if (answer(question) == far) {
            faults.add(question + " answered " + far + " as behind other calls");
        }
        return this;
    }

    Run bad(String... refused) {
        return refuse("BAD", MeshWorlds.BAD, 0, refused);
    }

    Run state(String... refused) {
        return refuse("STATE", MeshWorlds.STATE, 0, refused);
    }

    /** NONE is no refusal, but changes nothing either. */
    Run none(String... refused) {
        return refuse("NONE", MeshWorlds.NONE, 0, refused);
    }

    Run finds(int finding, String... refused) {
        return refuse(FINDINGS[finding], MeshWorlds.FINDING, finding, refused);
    }

    /** Asks that no call of the run changed anything, not even finding() and findings(). */
    Run changesNothing(String... quiet) {
        for (String call : quiet) {
            compare(call, 0);
        }
        return this;
    }

    private Run refuse(String word, int want, int finding, String... refused) {
        refusals.add(word);
        for (String call : refused) {
            List<String> with = new ArrayList<>(calls);
            holds(call, answers(with, List.of(call)).get(0), want);
            compare(call, finding);
        }
        return this;
    }

    private Run holds(String call, long got, long want) {
        looked++;
        if (got != want) {
            faults.add(call + " answered " + got + ", due is " + want);
        }
        return this;
    }

    /** The twins' answers are the same, but for what a finding changes. */
    private void compare(String call, int finding) {
        if (questions == null) {
            questions = questions();
            plain = new ArrayList<>();
            for (List<String> asked : questions) {
                plain.add(answers(calls, asked));
            }
        }
        List<String> with = new ArrayList<>(calls);
        with.add(call);
        for (int k = 0; k < questions.size(); k++) {
            List<String> asked = questions.get(k);
            List<Long> got = answers(with, asked);
            for (int i = 0; i < asked.size(); i++) {
                holds(asked.get(i) + " behind " + call, got.get(i), behind(asked.get(i), plain.get(k).get(i), finding));
            }
        }
    }

    private static long behind(String question, long without, int finding) {
        if (finding > 0 && question.equals("finding()")) {
            return finding;
        }
        return finding > 0 && question.equals("findings(" + finding + ")") ? without + 1 : without;
    }

    private long answer(String call) {
        questions = null;
        calls.add(call);
        if (calls.size() > MOST_CALLS) {
            faults.add("more than 512 calls on one object");
        }
        return invoke(x, call);
    }

    /** Answers by a new object behind calls; by several ones, if one would be called more than 512 times. */
    private static List<Long> answers(List<String> ahead, List<String> asked) {
        List<Long> answers = new ArrayList<>();
        // one call less, so that twins with and without one more are asked in like parts
        int room = Math.max(1, MOST_CALLS - 1 - ahead.size());
        MeshWorlds twin = null;
        for (int i = 0; i < asked.size(); i++) {
            if (i % room == 0) {
                twin = new MeshWorlds();
                for (String call : ahead) {
                    invoke(twin, call);
                }
            }
            answers.add(invoke(twin, asked.get(i)));
        }
        return answers;
    }

    private List<List<String>> questions() {
        List<Integer> there = new ArrayList<>();
        List<String> marks = new ArrayList<>();
        List<String> whether = new ArrayList<>();
        for (int c = 0; c < 336; c++) {
            whether.add("told(" + c + ", 0)");
        }
        List<Long> is = answers(calls, whether);
        for (int c = 0; c < 336; c++) {
            if (is.get(c) == 1) {
                there.add(c);
                for (int kind = 1; kind <= 4; kind++) {
                    marks.add("mark(" + c + ", " + kind + ")");
                }
            }
        }
        List<List<String>> all = new ArrayList<>();
        all.add(whatIsTold());
        all.add(whether);
        all.add(marks);
        all.add(flows(there));
        for (int slot = 0; slot <= 1; slot++) {
            all.add(List.of("find(" + slot + ")", "asked()", "goOn(" + slot + ")", "digest()", "tick()", "digest()"));
        }
        all.add(List.of("tick()", "digest()", "flow(0, 1)", "flow(5, 6)", "tick()", "digest()", "run(3, 2)", "ran(0, 0)",
                "ran(1, 1)", "cuts()", "curve(0)", "curve(7)", "fault(0)", "fault(1)", "fault(2)", "fault(3)", "deal(1)",
                "deal(33)", "digest()"));
        return all;
    }

    private static List<String> whatIsTold() {
        List<String> told = new ArrayList<>(List.of("digest()", "asked()", "upper()", "lower()", "finding()", "sum()",
                "top()", "over(0)", "over(1)"));
        for (int f = 1; f <= 5; f++) {
            told.add("findings(" + f + ")");
        }
        for (int what = 0; what <= 8; what++) {
            told.add("count(" + what + ")");
        }
        for (int m = 0; m < 6; m++) {
            told.add("ran(" + m + ", 0)");
            told.add("ran(" + m + ", 1)");
        }
        return told;
    }

    /** Among the great cells, which may have been there in the latest tick, and among those that are there now. */
    private static List<String> flows(List<Integer> there) {
        List<String> flows = new ArrayList<>();
        for (int a = 0; a < 16; a++) {
            for (int b : new int[] {a - 4, a - 1, a + 1, a + 4}) {
                if (b >= 0 && b < 16) {
                    flows.add("flow(" + a + ", " + b + ")");
                }
            }
        }
        for (int k = 0; k + 1 < there.size(); k++) {
            flows.add("flow(" + there.get(k) + ", " + there.get(k + 1) + ")");
            flows.add("flow(" + there.get(k + 1) + ", " + there.get(k) + ")");
        }
        return flows;
    }

    private static long invoke(MeshWorlds x, String text) {
        Call call = PARSED.computeIfAbsent(text, Run::parse);
        try {
            return ((Number) call.method.invoke(x, call.arguments)).longValue();
        } catch (IllegalAccessException | InvocationTargetException e) {
            throw new IllegalStateException(text, e);
        }
    }

    private static Call parse(String text) {
        if (FACE.isEmpty()) {
            for (Method method : MeshWorlds.class.getMethods()) {
                FACE.put(method.getName(), method);
            }
        }
        int open = text.indexOf('(');
        Method method = FACE.get(text.substring(0, open));
        String inside = text.substring(open + 1, text.length() - 1);
        String[] words = inside.isEmpty() ? new String[0] : inside.split(", ");
        Object[] arguments = new Object[words.length];
        for (int i = 0; i < words.length; i++) {
            arguments[i] = argument(words[i]);
        }
        return new Call(method, arguments);
    }

    private static Object argument(String word) {
        switch (word) {
            case "true":
                return true;
            case "false":
                return false;
            case "MIN":
                return Integer.MIN_VALUE;
            case "MAX":
                return Integer.MAX_VALUE;
            default:
                return Integer.valueOf(word);
        }
    }
}
