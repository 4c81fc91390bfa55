import java.io.IOException;
import java.lang.reflect.Field;
import java.lang.reflect.Method;
import java.lang.reflect.Modifier;
import java.nio.file.Files;
import java.nio.file.Path;
import java.util.Set;
import java.util.TreeSet;
import java.util.regex.Matcher;
import java.util.regex.Pattern;

/** The public face, and those rules of LANGUAGE.md that can be seen from the text and by reflection. */
public final class LanguageTest {
    private static final String[] FACE = {
        "int row(int,int)", "int lay(int,int,int)", "int tear(int)", "int copy(int,int,int,int,int)",
        "int average(int)", "int text(int,int)", "int put(int,int,int)", "int fault(int)", "int field(int)",
        "int amount(int,int)", "int fill(int)", "int told(int,int)", "int mark(int,int)", "int at(int,int)",
        "int part(int)", "int join(int)", "int edge(int,boolean)", "int freeze(int,boolean)", "int see(int,boolean)",
        "int tick()", "int flow(int,int)", "long sum()", "int top()", "long over(int)", "int machine(int,int)",
        "int give(int,int)", "int bears(int,int)", "int work(int)", "int cuts()", "int curve(int)", "int deal(int)",
        "int run(int,int)", "int ran(int,int)", "int keep(int)", "int goOn(int)", "int flip(int,int)",
        "int find(int)", "int stops(int)", "int keeping(int,int,int)", "int best(int,int)",
        "int share(int,int,int)", "int most(int,int)", "int off(int,int)", "int asked()", "long upper()",
        "long lower()", "int count(int)", "int finding()", "int findings(int)", "long digest()"
    };
    private static final String[] FORBIDDEN = {
        "throw", "throws", "try", "catch", "synchronized", "assert", "import", "package", "yield", "hashCode",
        "toString", "Exact", "protected", "native", "volatile", "transient", "var", "Object"
    };

    private static int wrong;

    public static void main(String[] args) throws IOException {
        face();
        classes();
        text(Files.readString(Path.of("src/main/java/MeshWorlds.java")));
        System.out.println("LanguageTest: " + wrong + " wrong");
        if (wrong != 0) {
            System.exit(1);
        }
    }

    private static void holds(boolean fine, String what) {
        if (!fine) {
            wrong++;
            System.out.println("LanguageTest: " + what);
        }
    }

    private static void face() {
        Set<String> want = new TreeSet<>(Set.of(FACE));
        Set<String> names = new TreeSet<>();
        Set<String> has = new TreeSet<>();
        for (Method method : MeshWorlds.class.getDeclaredMethods()) {
            if (Modifier.isPublic(method.getModifiers())) {
                StringBuilder types = new StringBuilder();
                for (Class<?> type : method.getParameterTypes()) {
                    types.append(types.length() == 0 ? "" : ",").append(type);
                }
                has.add(method.getReturnType() + " " + method.getName() + "(" + types + ")");
                names.add(method.getName());
                holds(!Modifier.isStatic(method.getModifiers()), "a static public method");
            }
        }
        holds(want.equals(has), "the face has " + has);
        for (Class<?> type : MeshWorlds.class.getDeclaredClasses()) {
            for (Method method : type.getDeclaredMethods()) {
                holds(!names.contains(method.getName()), "a method inside bears the name " + method.getName());
            }
        }
        for (Method method : MeshWorlds.class.getDeclaredMethods()) {
            int modifiers = method.getModifiers();
            holds(Modifier.isPublic(modifiers) || Modifier.isPrivate(modifiers), method + " can be seen");
            holds(Modifier.isPublic(modifiers) || !names.contains(method.getName()), method + " is private");
        }
        holds(MeshWorlds.class.getConstructors().length == 1, "one public constructor");
        Set<String> constants = new TreeSet<>();
        for (Field field : MeshWorlds.class.getDeclaredFields()) {
            if (Modifier.isPublic(field.getModifiers())) {
                constants.add(field.getName());
            } else {
                holds(Modifier.isPrivate(field.getModifiers()), field + " can be seen");
            }
        }
        holds(constants.equals(Set.of("BAD", "FULL", "FINDING", "STATE", "NONE")), "the constants are " + constants);
        holds(MeshWorlds.BAD == -1 && MeshWorlds.FULL == -2 && MeshWorlds.FINDING == -3
                && MeshWorlds.STATE == -4 && MeshWorlds.NONE == -9, "the constants' numbers");
    }

    private static void classes() {
        holds(Modifier.isFinal(MeshWorlds.class.getModifiers()), "the class is final");
        Class<?>[] inside = MeshWorlds.class.getDeclaredClasses();
        holds(inside.length < 12, "classes: " + inside.length);
        fields(MeshWorlds.class);
        for (Class<?> type : inside) {
            holds(Modifier.isStatic(type.getModifiers()), type + " is static");
            holds(!Modifier.isPublic(type.getModifiers()), type + " is not public");
            fields(type);
        }
    }

    private static void fields(Class<?> type) {
        int own = 0;
        for (Field field : type.getDeclaredFields()) {
            if (Modifier.isStatic(field.getModifiers())) {
                holds(Modifier.isFinal(field.getModifiers()), field + " is static and not final");
            } else {
                own++;
            }
        }
        holds(own <= 20, type + " has fields: " + own);
        for (Method method : type.getDeclaredMethods()) {
            holds(method.getParameterCount() <= 7, method + " has too many parameters");
        }
    }

    private static void text(String source) {
        for (char sign : source.toCharArray()) {
            holds(sign < 128, "a sign " + (int) sign);
        }
        String code = source.replaceAll("(?s)/\\*.*?\\*/", "").replaceAll("//[^\n]*", "");
        for (String word : FORBIDDEN) {
            holds(!Pattern.compile("\\b" + word + "\\b").matcher(code).find(), "the word " + word);
        }
        holds(!code.contains("->") && !code.contains("::") && !code.contains("\"") && !code.contains("@"),
                "a lambda, a reference, a text or an annotation");
        holds(!code.contains("while") && !code.contains("for (;;"), "a loop whose end is not seen from its lines");
        Matcher library = Pattern.compile("\\b(Math|System|Integer|Long|Arrays)\\.(\\w+)").matcher(code);
        while (library.find()) {
            holds(Set.of("max", "min", "arraycopy").contains(library.group(2)), "the library's " + library.group());
        }
        lengths(code);
    }

    /** Methods stand four or eight signs in, and end with a brace as far in. */
    private static void lengths(String code) {
        String[] lines = code.split("\n");
        for (int i = 0; i < lines.length; i++) {
            Matcher head = Pattern.compile("^( {4}| {8})(?!static final class|private static final class)[^ ].*\\) \\{$")
                    .matcher(lines[i]);
            if (!head.find()) {
                continue;
            }
            int end = i;
            while (end < lines.length && !lines[end].equals(head.group(1) + "}")) {
                end++;
            }
            holds(end - i < 60, "a method of " + (end - i) + " lines: " + lines[i]);
        }
    }
}
