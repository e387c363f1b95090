import java.io.IOException;
import java.nio.file.Files;
import java.nio.file.Path;
import java.util.ArrayList;
import java.util.Arrays;
import java.util.List;
import java.util.regex.Matcher;
import java.util.regex.Pattern;
import java.util.stream.Stream;

/**
 * That the tests named Edges.. leave no sentence of ../shared/DOC.md out: each has a comment
 * // Promise 2: "its words" (or // Promise 2 by Terms: "its words") ahead of a method that is called,
 * the words stand in the document, and of promises 1 to 50 and of Terms nothing is without such a comment.
 */
public final class EveryEdgeHasATest {
    private static final Pattern SAID = Pattern.compile("// Promise (\\d+)( by [A-Za-z ]+)?: \"(.*)");

    private static final class Quote {
        String file;
        int promise;
        boolean elsewhere;
        String words;
    }

    private static int wrong = 0;

    public static void main(String[] args) throws IOException {
        String document = plain(Files.readString(Path.of("../shared/DOC.md")));
        List<Quote> quotes = new ArrayList<>();
        try (Stream<Path> tests = Files.list(Path.of("tests"))) {
            for (Path test : (Iterable<Path>) tests.sorted()::iterator) {
                if (test.getFileName().toString().startsWith("Edges")) {
                    read(test, quotes);
                }
            }
        }
        String terms = document.substring(document.indexOf("## Terms"), document.indexOf("The constants:"));
        boolean[] termsHeld = new boolean[terms.length()];
        for (Quote q : quotes) {
            check(document.contains(q.words), q.file + ": the document doesn't say: " + q.words);
            mark(terms, q.words, termsHeld);
        }
        for (int promise = 1; promise <= 50; promise++) {
            holds(document, promise, quotes);
        }
        String left = left(terms, termsHeld).replaceAll("## Terms|```text|```|==== (II|III|IV|V)\\.", "");
        check(!left.matches("(?s).*[A-Za-z0-9].*"), "of Terms no test names: " + left);
        System.out.println("EveryEdgeHasATest: " + quotes.size() + " sentences named, " + wrong + " not as due");
        if (wrong > 0) {
            System.exit(1);
        }
    }

    private static void check(boolean so, String what) {
        if (!so) {
            wrong++;
            System.out.println(what);
        }
    }

    private static String plain(String text) {
        return text.replaceAll("\\s+", " ");
    }

    private static void read(Path test, List<Quote> quotes) throws IOException {
        List<String> lines = Files.readAllLines(test);
        String all = String.join("\n", lines);
        for (int i = 0; i < lines.size(); i++) {
            Matcher m = SAID.matcher(lines.get(i).trim());
            if (!m.matches()) {
                continue;
            }
            Quote q = new Quote();
            q.file = test.getFileName() + ":" + (i + 1);
            q.promise = Integer.parseInt(m.group(1));
            q.elsewhere = m.group(2) != null;
            StringBuilder words = new StringBuilder(m.group(3));
            while (words.charAt(words.length() - 1) != '"') {
                i++;
                words.append(' ').append(lines.get(i).trim().substring(2).trim());
            }
            q.words = plain(words.substring(0, words.length() - 1));
            quotes.add(q);
            isAheadOfATest(q, lines, i, all);
        }
    }

    private static void isAheadOfATest(Quote q, List<String> lines, int last, String all) {
        int i = last + 1;
        while (lines.get(i).trim().startsWith("//")) {
            i++;
        }
        Matcher m = Pattern.compile("    private static void (\\w+)\\(\\) \\{").matcher(lines.get(i));
        check(m.matches(), q.file + ": it stands ahead of no test: " + q.words);
        if (m.matches()) {
            check(all.contains("\n        " + m.group(1) + "();\n"), q.file + ": nothing calls " + m.group(1));
        }
    }

    private static void mark(String text, String words, boolean[] held) {
        for (int at = text.indexOf(words); at >= 0; at = text.indexOf(words, at + 1)) {
            Arrays.fill(held, at, at + words.length(), true);
        }
    }

    private static String left(String text, boolean[] held) {
        StringBuilder left = new StringBuilder();
        for (int i = 0; i < held.length; i++) {
            left.append(held[i] ? ' ' : text.charAt(i));
        }
        return plain(left.toString());
    }

    /** Of the words of a promise, behind its signature, each is quoted for that promise. */
    private static void holds(String document, int promise, List<Quote> quotes) {
        int from = document.indexOf("## Promise " + promise + ":");
        int behind = document.indexOf("`: ", from) + 3;
        String words = document.substring(behind, document.indexOf(" ## ", behind));
        boolean[] held = new boolean[words.length()];
        for (Quote q : quotes) {
            if (q.promise == promise && !q.elsewhere) {
                check(words.contains(q.words), q.file + ": promise " + promise + " doesn't say: " + q.words);
                mark(words, q.words, held);
            }
        }
        String left = left(words, held);
        check(!left.matches("(?s).*[A-Za-z0-9].*"), "of promise " + promise + " no test names: " + left);
    }
}
