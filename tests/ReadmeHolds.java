import java.io.IOException;
import java.lang.reflect.Method;
import java.lang.reflect.Modifier;
import java.nio.file.Files;
import java.nio.file.Path;
import java.util.ArrayList;
import java.util.Arrays;
import java.util.List;
import java.util.Map;
import java.util.TreeMap;
import java.util.regex.Matcher;
import java.util.regex.Pattern;
import java.util.stream.Stream;

/** That what README.md shows and says is so: the answers behind its calls, what a refused call answers, the names of the tests. */
public final class ReadmeHolds {
    private static final Pattern SHOWN = Pattern.compile("x\\.(\\w+)\\(([^)]*)\\);\\s*// (\\S+)( .*)?");
    private static final Pattern LISTED = Pattern.compile("- (`-1` \\(`NONE`\\)|`-2`|`false`|nothing to refuse): ((?:[\\w, ]|\n  )+)\n");
    private static final Map<String, Method> FACE = new TreeMap<>();
    private static final Due due = new Due();

    public static void main(String[] args) throws Exception {
        for (Method method : QuiverKin.class.getDeclaredMethods()) {
            if (Modifier.isPublic(method.getModifiers())) {
                FACE.put(method.getName(), method);
            }
        }
        String readme = Files.readString(Path.of("README.md"));
        shownCalls(readme);
        refusedCalls(readme);
        names(readme);
        due.end("ReadmeHolds");
    }

    private static void shownCalls(String readme) throws Exception {
        int shown = 0;
        Matcher block = Pattern.compile("(?s)```java\n(.*?)```").matcher(readme);
        while (block.find()) {
            QuiverKin x = null;
            for (String line : block.group(1).split("\n")) {
                if (line.equals("QuiverKin x = new QuiverKin();")) {
                    x = new QuiverKin();
                    continue;
                }
                Matcher m = SHOWN.matcher(line);
                due.is("a call and its answer: " + line, m.matches(), true);
                if (m.matches()) {
                    List<String> answer = List.of(asked(x, m.group(1), m.group(2).split(", ")));
                    due.alike(line, answer, List.of(m.group(3)));
                    shown++;
                }
            }
        }
        due.is("some calls are shown", shown > 20, true);
    }

    private static String asked(QuiverKin x, String name, String[] words) throws Exception {
        Class<?>[] types = FACE.get(name).getParameterTypes();
        Object[] values = new Object[types.length];
        for (int i = 0; i < types.length; i++) {
            values[i] = types[i] == int.class ? (Object) Integer.decode(words[i]) : (Object) Boolean.valueOf(words[i]);
        }
        return String.valueOf(FACE.get(name).invoke(x, values));
    }

    /** Each call of the face is in one of the lists, and answers so on an object on which it can't be. */
    private static void refusedCalls(String readme) throws Exception {
        List<String> listed = new ArrayList<>();
        Matcher list = LISTED.matcher(readme);
        while (list.find()) {
            for (String name : list.group(2).split(",\\s*")) {
                listed.add(name);
                String answer = FACE.containsKey(name) ? refused(name) : "no call";
                if (list.group(1).startsWith("`")) {
                    due.alike("refused: " + name, List.of("`" + answer + "`"), List.of(list.group(1).split(" ")[0]));
                } else {
                    due.is(name + " isn't refused", answer.startsWith("-") || answer.equals("false"), false);
                }
            }
        }
        listed.sort(null);
        due.alike("the calls in the lists", listed, new ArrayList<>(FACE.keySet()));
    }

    /** The tape is full of what is no TEXT, and nothing fits; there are no KIN, nobody has KEPT anything, no STEP was. */
    private static String refused(String name) throws Exception {
        QuiverKin x = new QuiverKin();
        for (int i = 0; i < 15; i++) {
            x.feed(0, 0, 0, 0, 0);
        }
        x.guess(0, 0, 3);
        String[] words = new String[FACE.get(name).getParameterCount()];
        Arrays.fill(words, String.valueOf(Integer.MIN_VALUE));
        return asked(x, name, words);
    }

    private static void names(String readme) throws IOException {
        due.is("it tells of the 512 calls", readme.contains("at most 512 calls"), true);
        try (Stream<Path> files = Files.walk(Path.of("tests"))) {
            for (Path file : (Iterable<Path>) files::iterator) {
                String path = file.toString().replace('\\', '/');
                String name = path.startsWith("tests/help/") ? "`" + path.substring(11).replace(".java", "") + "`" : "`" + path + "`";
                if (path.endsWith(".java")) {
                    due.is("it names " + name, readme.contains(name), true);
                }
            }
        }
        Matcher named = Pattern.compile("`((?:tests|src|\\.ci)/[\\w/.]*)`").matcher(readme);
        while (named.find()) {
            due.is(named.group(1) + " is there", Files.exists(Path.of(named.group(1))), true);
        }
    }
}
