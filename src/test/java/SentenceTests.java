import java.io.IOException;
import java.io.UncheckedIOException;
import java.nio.charset.StandardCharsets;
import java.nio.file.Files;
import java.nio.file.Path;
import java.util.ArrayList;
import java.util.HashSet;
import java.util.List;
import java.util.Set;
import java.util.regex.Matcher;
import java.util.regex.Pattern;

/**
 * Tests that each name the sentence of the document that they hold the class to, and the
 * promise in which it stands. That it does stand there is looked up in the document.
 */
abstract class SentenceTests extends Projects {
    /** Where the document says what is ahead of its promises. */
    static final int TERMS = 0;
    static final int PROMISES = 44;

    static final Class<? extends RuntimeException> INDEX = IndexOutOfBoundsException.class;
    static final Class<? extends RuntimeException> ARGUMENT = IllegalArgumentException.class;
    static final Class<? extends RuntimeException> STATE = IllegalStateException.class;

    private static final Path DOCUMENT = Path.of("../shared/DOC.md");
    private static final List<String> SECTIONS = new ArrayList<>();
    private static final Set<String> NAMED = new HashSet<>();

    private static String current = "";
    private static int tests = 0;
    private static int wrong = 0;

    /** A call that is made on an object, with its answer. */
    interface Call {
        Object on(PackWright x);
    }

    static void sentence(int where, String words, Runnable test) {
        current = (where == TERMS ? "terms" : "promise " + where) + ", \"" + words + "\": ";
        NAMED.add(where + words);
        tests++;
        if (hasDocument() && !plain(SECTIONS.get(where)).contains(plain(words))) {
            fails("the document does not say that there");
        }
        try {
            test.run();
        } catch (RuntimeException e) {
            fails("a call threw " + e);
        }
    }

    static void is(String what, Object got, Object due) {
        if (!got.equals(due)) {
            fails(what + " is " + got + ", due is " + due);
        }
    }

    static void fails(String what) {
        wrong++;
        System.out.println(current + what);
    }

    /** What a call answers, or the name of the exception that it throws. */
    static Object answer(Call call, PackWright x) {
        try {
            return call.on(x);
        } catch (RuntimeException e) {
            return "throws." + e.getClass().getSimpleName();
        }
    }

    static void refuses(PackWright x, Class<? extends RuntimeException> due, String what, Call call) {
        is(what, answer(call, x), "throws." + due.getSimpleName());
    }

    /** Each sentence of a promise that begins with that word must have a test that names it. */
    static void mustHaveNamedAll(String firstWord) {
        current = "";
        for (int promise = 1; hasDocument() && promise <= PROMISES; promise++) {
            Matcher said = Pattern.compile("(?m)(?<=^|`: )" + firstWord + " .*$").matcher(SECTIONS.get(promise));
            while (said.find()) {
                if (!NAMED.contains(promise + said.group())) {
                    fails("promise " + promise + ": no test names \"" + said.group() + "\"");
                }
            }
        }
    }

    static void end() {
        String told = hasDocument() ? " tests of sentences" : " tests of sentences; the document is not there";
        System.out.println(tests + told + (wrong == 0 ? "; all answers are as due" : "; not as due: " + wrong));
        if (wrong != 0) {
            System.exit(1);
        }
    }

    private static boolean hasDocument() {
        if (SECTIONS.isEmpty() && Files.exists(DOCUMENT)) {
            try {
                String text = Files.readString(DOCUMENT, StandardCharsets.UTF_8);
                SECTIONS.addAll(List.of(text.split("(?m)^## (?=Promise )")));
            } catch (IOException e) {
                throw new UncheckedIOException(e);
            }
            if (SECTIONS.size() != PROMISES + 1) {
                fails("the document has " + (SECTIONS.size() - 1) + " promises");
            }
        }
        return SECTIONS.size() == PROMISES + 1;
    }

    private static String plain(String words) {
        return words.replaceAll("\\s+", " ");
    }
}
