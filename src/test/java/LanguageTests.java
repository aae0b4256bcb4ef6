import java.io.IOException;
import java.lang.reflect.Constructor;
import java.lang.reflect.Field;
import java.lang.reflect.Method;
import java.lang.reflect.Modifier;
import java.nio.file.Files;
import java.nio.file.Path;
import java.util.ArrayList;
import java.util.List;
import java.util.Set;
import java.util.TreeSet;
import java.util.regex.Matcher;
import java.util.regex.Pattern;

/** What of LANGUAGE.md and of the document's face can be seen from the class and its source. */
public final class LanguageTests {
    private static final Set<String> FACE = new TreeSet<>(List.of(
        "int put(int,int,int)", "int take(int,int)", "int node(int,int,int)", "int part(int,int,int)",
        "int told(int,int)", "int partOf(int,int,int)", "boolean may(int,int)", "boolean sure(int,int)",
        "int look(int,int)", "long scored()", "int run(int)", "int found(int)", "long score(int)", "int keep(int)",
        "int open(int)", "int next(int,int)", "int close(int)", "int rewrite(int)", "int sum(int)"));
    private static final Set<String> CONSTANTS = new TreeSet<>(List.of("NONE", "BAD", "FULL", "STATE"));
    private static final String[] FORBIDDEN = {
        "throw", "throws", "try", "catch", "finally", "synchronized", "assert", "package", "native", "volatile",
        "Object", "Thread", "System", "Random", "HashMap", "Exact", "->", "::", "NaN"};

    private static int wrong = 0;

    private static void must(boolean so, String what) {
        if (!so) {
            wrong++;
            System.out.println("LANGUAGE: " + what);
        }
    }

    private static String signature(Method m) {
        List<String> types = new ArrayList<>();
        for (Class<?> t : m.getParameterTypes()) types.add(t.getName());
        return m.getReturnType().getName() + " " + m.getName() + "(" + String.join(",", types) + ")";
    }

    private static void checkFace() {
        Set<String> open = new TreeSet<>();
        Set<String> names = new TreeSet<>();
        for (Method m : BooleanRuns.class.getDeclaredMethods()) {
            if (Modifier.isPublic(m.getModifiers())) {
                open.add(signature(m));
                names.add(m.getName());
            }
        }
        must(open.equals(FACE), "the public methods are " + open);
        for (Method m : BooleanRuns.class.getDeclaredMethods()) {
            int bits = m.getModifiers();
            must(Modifier.isPublic(bits) || Modifier.isPrivate(bits), m + " is neither public nor private");
            must(Modifier.isPublic(bits) || !names.contains(m.getName()), m + " bears the name of a public one");
        }
        Set<String> constants = new TreeSet<>();
        for (Field f : BooleanRuns.class.getDeclaredFields()) {
            if (Modifier.isPublic(f.getModifiers())) constants.add(f.getName());
            else must(Modifier.isPrivate(f.getModifiers()), f + " is not private");
        }
        must(constants.equals(CONSTANTS), "the public constants are " + constants);
        Constructor<?>[] made = BooleanRuns.class.getDeclaredConstructors();
        must(made.length == 1 && made[0].getParameterCount() == 0, "there is more than the one constructor");
        must(Modifier.isFinal(BooleanRuns.class.getModifiers()), "the class is not final");
    }

    private static void checkInside() {
        Class<?>[] inside = BooleanRuns.class.getDeclaredClasses();
        must(inside.length <= 12, inside.length + " classes inside");
        for (Class<?> c : inside) {
            must(Modifier.isStatic(c.getModifiers()), c + " is not static");
            must(!Modifier.isPublic(c.getModifiers()), c + " is public");
            checkFields(c);
            for (Method m : c.getDeclaredMethods()) must(m.getParameterCount() <= 7, m + " has too many parameters");
        }
        checkFields(BooleanRuns.class);
    }

    private static void checkFields(Class<?> c) {
        int own = 0;
        for (Field f : c.getDeclaredFields()) {
            if (Modifier.isStatic(f.getModifiers())) must(Modifier.isFinal(f.getModifiers()), f + " is not final");
            else own++;
        }
        must(own <= 20, c + " has " + own + " fields");
    }

    private static void checkSource(String path) throws IOException {
        String source = Files.readString(Path.of(path));
        String code = source.replaceAll("(?s)/\\*.*?\\*/", " ").replaceAll("//[^\n]*", " ")
            .replace("System.arraycopy", " ");
        for (String word : FORBIDDEN) {
            boolean isWord = Character.isLetter(word.charAt(0));
            String pattern = isWord ? "\\b" + word + "\\b" : Pattern.quote(word);
            must(!Pattern.compile(pattern).matcher(code).find(), "the source has '" + word + "'");
        }
        Matcher imports = Pattern.compile("import\\s+(?:static\\s+)?([\\w.*]+)").matcher(code);
        while (imports.find()) {
            must(Set.of("java.util.Arrays", "java.util.ArrayList", "java.util.List").contains(imports.group(1)),
                "the source imports " + imports.group(1));
        }
        checkLibrary(code);
        checkLengths(code);
    }

    /** Rule 4 lets in functions of these classes and none of their constants, which the compiled class would not show. */
    private static void checkLibrary(String code) {
        Set<String> ofArrays = Set.of("fill", "copyOf", "copyOfRange");
        Matcher uses = Pattern.compile("\\b(Integer|Long|Math|Arrays)\\s*\\.\\s*(\\w+)\\s*(\\(?)").matcher(code);
        while (uses.find()) {
            String name = uses.group(1) + "." + uses.group(2);
            must(uses.group(3).equals("("), name + " is not a function");
            must(!name.startsWith("Arrays.") || ofArrays.contains(uses.group(2)), name + " is not in rule 4");
            must(!name.endsWith("Exact"), name + " may throw");
        }
        must(!Pattern.compile("\\b(Short|Byte|Character|Boolean|Double|Float|Objects)\\b").matcher(code).find(),
            "a class of the library that rule 4 does not name");
    }

    private static void checkLengths(String code) {
        String[] lines = code.split("\n", -1);
        Pattern begins = Pattern.compile("^\\s*(?:(?:public|private|static|final)\\s+)*[\\w\\[\\]]+\\s+(\\w+)\\([^;]*\\)\\s*\\{\\s*$");
        for (int i = 0; i < lines.length; i++) {
            Matcher m = begins.matcher(lines[i]);
            if (!m.matches() || lines[i].trim().startsWith("}")) continue;
            int depth = 0;
            int end = i;
            for (; end < lines.length; end++) {
                depth += lines[end].chars().filter(c -> c == '{').count() - lines[end].chars().filter(c -> c == '}').count();
                if (depth == 0) break;
            }
            must(end - i < 60, m.group(1) + " has " + (end - i + 1) + " lines");
        }
    }

    public static void main(String[] args) throws IOException {
        checkFace();
        checkInside();
        checkSource(args.length > 0 ? args[0] : "src/main/java/BooleanRuns.java");
        System.out.println("LanguageTests: " + wrong + " wrong");
        if (wrong > 0) System.exit(1);
    }
}
