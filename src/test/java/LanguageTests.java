import java.lang.reflect.Constructor;
import java.lang.reflect.Field;
import java.lang.reflect.Member;
import java.lang.reflect.Method;
import java.lang.reflect.Modifier;
import java.nio.charset.StandardCharsets;
import java.nio.file.Files;
import java.nio.file.Path;
import java.util.ArrayList;
import java.util.Arrays;
import java.util.List;
import java.util.Set;
import java.util.TreeSet;
import java.util.regex.Matcher;
import java.util.regex.Pattern;

/** What of the face and of the rules of LANGUAGE.md can be seen in the class and in its text. */
public final class LanguageTests {
    private static final String[] FACE = {
        "int addPackage() IllegalStateException",
        "int publish(int, int, int, int, int) IndexOutOfBoundsException IllegalArgumentException IllegalStateException",
        "int need(int, int, int, int, int, int, int, int) "
                + "IndexOutOfBoundsException IllegalArgumentException IllegalStateException",
        "int clash(int, int, int, int, int, int) "
                + "IndexOutOfBoundsException IllegalArgumentException IllegalStateException",
        "boolean withdraw(int, int, boolean) IndexOutOfBoundsException",
        "int packages()",
        "int versions(int) IndexOutOfBoundsException",
        "int versionAt(int, int) IndexOutOfBoundsException",
        "int letIn(int, int, int, int, int) IndexOutOfBoundsException IllegalArgumentException",
        "int wish(int, int, int, int, int, int) "
                + "IndexOutOfBoundsException IllegalArgumentException IllegalStateException",
        "int dropWish(int) IndexOutOfBoundsException",
        "int wishes()",
        "int resolve(int, int) IllegalArgumentException IndexOutOfBoundsException",
        "int tries()",
        "int locked(int) IndexOutOfBoundsException",
        "int lockedPackages()",
        "int featuresOf(int) IndexOutOfBoundsException",
        "boolean isSound()",
        "int idle()",
        "int core()",
        "int depth(int) IndexOutOfBoundsException",
        "int chainAt(int, int) IndexOutOfBoundsException IllegalArgumentException",
        "int neededBy(int) IndexOutOfBoundsException",
        "int newer(int) IndexOutOfBoundsException",
        "int wouldChange(int) IndexOutOfBoundsException",
        "int setDisk(int) IllegalArgumentException",
        "int setCache(int) IllegalArgumentException",
        "int plan()",
        "int steps()",
        "int kindOf(int) IndexOutOfBoundsException",
        "int packageOf(int) IndexOutOfBoundsException",
        "int run(int) IllegalArgumentException IllegalStateException",
        "int rollBack() IllegalStateException",
        "int installed(int) IndexOutOfBoundsException",
        "int taken()",
        "int cached()",
        "int ageOf(int, int) IndexOutOfBoundsException",
        "int fetched()",
        "int wouldFetch()",
        "int roomNeeded()",
        "boolean isInstalled()",
        "double meanSize()",
        "long digest()",
    };
    private static final String[] NOT_IN_THE_TEXT = {
        "import", "package", "->", "::", "try", "catch", "finally", "synchronized", "assert", "record", "@",
        "System", "Math.random", "equals", "hashCode", "toString", "instanceof", "volatile", "native", "Exact",
        "float", "Thread", "Object", "NaN",
    };
    private static final int MOST_LINES = 60;

    private static int wrong = 0;

    private LanguageTests() { }

    private static void must(boolean holds, String what) {
        if (!holds) {
            wrong++;
            System.out.println("not so: " + what);
        }
    }

    public static void main(String[] args) throws Exception {
        faceIsThatOfTheDocument();
        restIsHidden();
        String text = Files.readString(Path.of("src/main/java/PackWright.java"), StandardCharsets.UTF_8);
        textKeepsToTheRules(text);
        methodsAreShort(text);
        System.out.println(wrong == 0 ? "the rules that are looked at hold" : wrong + " rules are broken");
        if (wrong != 0) {
            System.exit(1);
        }
    }

    private static void faceIsThatOfTheDocument() {
        Set<String> due = new TreeSet<>(Arrays.asList(FACE));
        Set<String> got = new TreeSet<>();
        for (Method m : PackWright.class.getDeclaredMethods()) {
            if (Modifier.isPublic(m.getModifiers())) {
                got.add(told(m));
            }
        }
        must(got.equals(due), "the public methods are those of the document: " + got);
        int modifiers = PackWright.class.getModifiers();
        must(Modifier.isPublic(modifiers) && Modifier.isFinal(modifiers), "the class is public and final");
        Constructor<?>[] constructors = PackWright.class.getDeclaredConstructors();
        must(constructors.length == 1 && constructors[0].getParameterCount() == 0
                && Modifier.isPublic(constructors[0].getModifiers()), "there is one constructor");
    }

    private static String told(Method m) {
        List<String> parameters = new ArrayList<>();
        for (Class<?> type : m.getParameterTypes()) {
            parameters.add(type.getSimpleName());
        }
        StringBuilder told = new StringBuilder(m.getReturnType().getSimpleName() + " " + m.getName()
                + "(" + String.join(", ", parameters) + ")");
        for (Class<?> type : m.getExceptionTypes()) {
            told.append(' ').append(type.getSimpleName());
        }
        return told.toString();
    }

    private static void restIsHidden() {
        Set<String> names = new TreeSet<>();
        for (String method : FACE) {
            names.add(method.substring(method.indexOf(' ') + 1, method.indexOf('(')));
        }
        List<Class<?>> classes = new ArrayList<>(List.of(PackWright.class.getDeclaredClasses()));
        must(classes.size() <= 11, "there are at most twelve classes");
        for (Class<?> inner : classes) {
            must(Modifier.isStatic(inner.getModifiers()) && !Modifier.isPublic(inner.getModifiers())
                    && !Modifier.isProtected(inner.getModifiers()), inner.getName() + " is static and hidden");
        }
        classes.add(PackWright.class);
        for (Class<?> type : classes) {
            int fields = 0;
            for (Field f : type.getDeclaredFields()) {
                boolean isStatic = Modifier.isStatic(f.getModifiers());
                fields += isStatic ? 0 : 1;
                must(!isStatic || Modifier.isFinal(f.getModifiers()), "static " + f.getName() + " is final");
                must(type != PackWright.class || isPrivate(f), f.getName() + " is private");
            }
            must(fields <= 20, type.getName() + " has at most twenty fields");
            for (Method m : type.getDeclaredMethods()) {
                boolean isOfTheFace = type == PackWright.class && Modifier.isPublic(m.getModifiers());
                must(isOfTheFace || !names.contains(m.getName()), m.getName() + " has a name of its own");
                must(isOfTheFace || type != PackWright.class || isPrivate(m), m.getName() + " is private");
                must(isOfTheFace || m.getParameterCount() <= 7, m.getName() + " has at most seven parameters");
            }
        }
    }

    private static boolean isPrivate(Member member) {
        return Modifier.isPrivate(member.getModifiers());
    }

    private static void textKeepsToTheRules(String text) {
        must(text.chars().allMatch(c -> c == '\n' || c >= ' ' && c < 127), "the text is of plain signs");
        String code = text.replaceAll("(?s)/\\*.*?\\*/", "").replaceAll("//[^\n]*", "").replaceAll("\"[^\"]*\"", "\"\"");
        for (String word : NOT_IN_THE_TEXT) {
            String pattern = Character.isLetter(word.charAt(0)) ? "\\b" + Pattern.quote(word) + "\\b" : Pattern.quote(word);
            must(!Pattern.compile(pattern).matcher(code).find(), word + " is not in the text");
        }
        Matcher thrown = Pattern.compile("throw (?!new (IllegalState|IllegalArgument|IndexOutOfBounds)Exception\\(\"\"\\);)")
                .matcher(code);
        must(!thrown.find(), "what is thrown is made there, of a class that the document names");
    }

    private static void methodsAreShort(String text) {
        String[] lines = text.split("\n");
        int start = 0;
        for (int i = 0; i < lines.length; i++) {
            String line = lines[i];
            boolean isHead = line.matches("( {4}| {8})[A-Za-z].*(\\{|\\))") && !line.contains(" class ");
            start = isHead ? i : start;
            if (line.equals("    }") || line.equals("        }")) {
                must(i - start < MOST_LINES, "the method that ends in line " + (i + 1) + " is short");
            }
        }
    }
}
