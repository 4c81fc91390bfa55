import java.lang.reflect.Method;
import java.lang.reflect.Modifier;
import java.util.ArrayList;
import java.util.Arrays;
import java.util.Comparator;
import java.util.List;
import java.util.Random;

/** All promises: long runs of calls by chance (always the same ones), each answer against the model's. */
public final class ModelTest {
    private static final int RUNS = 600;
    /** What later calls on one object answer is free. */
    private static final int CALLS = 512;
    private static final int[] EXTREMES = {
        Integer.MIN_VALUE, Integer.MIN_VALUE + 1, -1000000, -41, -2, -1, 0, 1, 2, 3, 5, 6, 15, 16, 40, 41, 79, 80,
        335, 336, 1000000, 1000001, Integer.MAX_VALUE - 1, Integer.MAX_VALUE
    };

    private final Random random;
    private final MeshWorlds x = new MeshWorlds();
    private final Model model = new Model();
    private final List<String> log = new ArrayList<>();
    private final boolean wild;
    private int made;

    private ModelTest(long seed) {
        random = new Random(seed);
        wild = seed % 8 == 7;
    }

    public static void main(String[] args) throws ReflectiveOperationException {
        List<Method> methods = new ArrayList<>();
        for (Method method : MeshWorlds.class.getDeclaredMethods()) {
            if (Modifier.isPublic(method.getModifiers())) {
                methods.add(method);
            }
        }
        // the order in which reflection tells them is free, so that the runs would be other ones elsewhere
        methods.sort(Comparator.comparing(Method::getName));
        int wrong = 0;
        for (int seed = 0; seed < RUNS && wrong < 5; seed++) {
            ModelTest test = new ModelTest(seed);
            if (!test.holds(methods)) {
                wrong++;
                System.out.println("ModelTest: seed " + seed);
                List<String> log = test.log;
                for (String line : log.subList(Math.max(0, log.size() - 25), log.size())) {
                    System.out.println("    " + line);
                }
            }
        }
        System.out.println("ModelTest: " + RUNS + " runs, " + wrong + " wrong");
        if (wrong != 0) {
            System.exit(1);
        }
    }

    private boolean holds(List<Method> methods) throws ReflectiveOperationException {
        boolean fine = true;
        while (made < CALLS && fine) {
            int dice = random.nextInt(100);
            if (wild || dice < 30) {
                Method method = methods.get(random.nextInt(methods.size()));
                fine = call(method.getName(), arguments(method));
            } else if (dice < 40) {
                fine = law();
            } else if (dice < 60) {
                fine = call("tick") && lookAtFlows();
            } else {
                fine = worldly(dice);
            }
            fine = fine && call("digest") && (random.nextInt(6) != 0 || tellsAlike());
        }
        return fine;
    }

    private boolean tellsAlike() throws ReflectiveOperationException {
        boolean fine = call("asked") && call("upper") && call("lower") && call("finding");
        for (int f = 1; f <= 5 && fine; f++) {
            fine = call("findings", f);
        }
        return fine;
    }

    private Object[] arguments(Method method) {
        Class<?>[] types = method.getParameterTypes();
        Object[] arguments = new Object[types.length];
        for (int i = 0; i < types.length; i++) {
            if (types[i] == boolean.class) {
                arguments[i] = random.nextBoolean();
            } else if (wild && random.nextInt(3) == 0) {
                arguments[i] = EXTREMES[random.nextInt(EXTREMES.length)];
            } else {
                arguments[i] = number(method.getName(), i);
            }
        }
        return arguments;
    }

    private int number(String name, int i) {
        if (i == 0 && "amount told mark part edge freeze see flow give flip share most off".contains(name)
                || i == 1 && "flow share".contains(name)) {
            return random.nextInt(20) == 0 ? random.nextInt(340) - 2 : cell();
        }
        if (name.equals("join")) {
            return random.nextInt(81);
        }
        if (name.equals("amount")) {
            return money();
        }
        if ("row text".contains(name) && i == 1) {
            return random.nextInt(3) == 0 ? 16 : random.nextInt(44) - 2;
        }
        if (name.equals("lay") && i == 2) {
            return random.nextInt(20) == 0 ? -1 : money();
        }
        if (name.equals("deal")) {
            return random.nextInt(66);
        }
        if (name.equals("at") || name.equals("curve")) {
            return random.nextInt(18) - 1;
        }
        if ("run flip keeping best off".contains(name)) {
            return random.nextInt(23) - 1;
        }
        return random.nextInt(8) - 1;
    }

    private int cell() {
        return model.at(random.nextInt(16), random.nextInt(16));
    }

    private int money() {
        int[] most = {1, 10, 1000, 100000, 1000001};
        int v = random.nextInt(most[random.nextInt(most.length)]);
        return random.nextInt(10) == 0 ? 1000000 - v : v;
    }

    private boolean law() throws ReflectiveOperationException {
        StringBuilder signs = new StringBuilder();
        int items = random.nextInt(5);
        for (int i = 0; i < items; i++) {
            switch (random.nextInt(random.nextInt(12) == 0 ? 6 : 5)) {
                case 0:
                case 1:
                    int lower = 1 + random.nextInt(random.nextBoolean() ? 4 : 99);
                    signs.append('F').append(random.nextInt(lower + 1)).append('/').append(lower);
                    break;
                case 2:
                    signs.append('O').append(random.nextInt(4) == 0 ? 0 : 1);
                    break;
                case 3:
                    signs.append('P').append(1 + random.nextInt(random.nextBoolean() ? 500 : 400000));
                    break;
                case 4:
                    signs.append('J').append(random.nextInt(random.nextBoolean() ? 500 : 400000));
                    break;
                default:
                    signs.append("FOPJ/0129 x".charAt(random.nextInt(11)));
                    break;
            }
            signs.append(" ".repeat(random.nextInt(2)));
        }
        String text = signs.length() > 40 ? signs.substring(0, 40) : signs.toString();
        boolean fine = call("text", 0, text.length());
        for (int i = 0; i < text.length() && fine; i++) {
            fine = call("put", 0, i, (int) text.charAt(i));
        }
        return fine && call("fault", 0) && call("field", 0);
    }

    private boolean worldly(int dice) throws ReflectiveOperationException {
        if (dice < 68) {
            return call("part", cell());
        }
        if (dice < 70) {
            return call("join", random.nextInt(80));
        }
        if (dice < 76) {
            return call("amount", cell(), money());
        }
        if (dice < 80) {
            String[] kinds = {"edge", "freeze", "see", "see"};
            return call(kinds[random.nextInt(4)], cell(), random.nextInt(3) == 0);
        }
        if (dice < 84) {
            return call("give", cell(), random.nextInt(6));
        }
        if (dice < 88) {
            return call("run", 1 + random.nextInt(20), random.nextInt(51)) && call("ran", random.nextInt(6), 0)
                    && call("ran", random.nextInt(6), 1) && call("cuts");
        }
        if (dice < 92) {
            return call("share", cell(), cell(), random.nextInt(4)) && call("upper") && call("lower");
        }
        if (dice < 93) {
            int r = random.nextInt(3);
            return call("row", r, random.nextInt(6)) && call("lay", r, random.nextInt(5), money())
                    && call("copy", r, random.nextInt(3), random.nextInt(3), random.nextInt(3), random.nextInt(4))
                    && call("average", random.nextInt(3));
        }
        if (dice < 95) {
            return call("most", cell(), random.nextInt(4)) && call("upper") && call("lower");
        }
        if (dice < 97) {
            int slot = random.nextInt(2);
            return call("keep", slot) && call("flip", cell(), random.nextInt(19)) && call("find", slot) && call("asked");
        }
        return call("deal", 1 + random.nextInt(63)) && call("mark", cell(), 1 + random.nextInt(4));
    }

    private boolean lookAtFlows() throws ReflectiveOperationException {
        for (int i = 0; i < 4; i++) {
            int px = random.nextInt(15);
            int py = random.nextInt(16);
            if (!call("flow", model.at(px, py), model.at(px + 1, py))
                    || !call("flow", model.at(py, px + 1), model.at(py, px))) {
                return false;
            }
        }
        return call("mark", cell(), 1 + random.nextInt(4));
    }

    private boolean call(String name, Object... arguments) throws ReflectiveOperationException {
        if (made == CALLS) {
            return true;
        }
        Class<?>[] types = new Class<?>[arguments.length];
        for (int i = 0; i < types.length; i++) {
            types[i] = arguments[i] instanceof Boolean ? boolean.class : int.class;
        }
        long want = ((Number) Model.class.getMethod(name, types).invoke(model, arguments)).longValue();
        long got = ((Number) MeshWorlds.class.getMethod(name, types).invoke(x, arguments)).longValue();
        made++;
        String line = name + Arrays.toString(arguments) + " answered " + got;
        log.add(got == want ? line : line + ", due is " + want);
        return got == want;
    }
}
