import java.lang.reflect.Field;
import java.lang.reflect.Method;
import java.lang.reflect.Modifier;
import java.nio.file.Files;
import java.nio.file.Path;
import java.util.Set;
import java.util.TreeSet;
import java.util.regex.Matcher;
import java.util.regex.Pattern;

/** The public face to the letter, as ../shared/DOC.md prints it, and what of ../shared/LANGUAGE.md can be seen by a look. */
public final class FaceAndLanguage {
    private static int wrong = 0;

    public static void main(String[] args) throws Exception {
        face();
        language();
        System.out.println("FaceAndLanguage: " + (wrong == 0 ? "as due" : wrong + " not as due"));
        if (wrong > 0) {
            System.exit(1);
        }
    }

    private static void check(boolean so, String what) {
        if (!so) {
            wrong++;
            System.out.println(what);
        }
    }

    private static void face() throws Exception {
        Set<String> due = new TreeSet<>();
        Matcher m = Pattern.compile("public (int|boolean|long) (\\w+)\\(([^)]*)\\);").matcher(Files.readString(Path.of("../shared/DOC.md")));
        while (m.find()) {
            due.add(m.group(1) + " " + m.group(2) + "(" + m.group(3).replaceAll(" \\w+(,|$)", "$1") + ")");
        }
        check(due.size() == 49, "the document's face has " + due.size() + " methods");
        Set<String> has = new TreeSet<>();
        Set<String> names = new TreeSet<>();
        for (Method method : QuiverKin.class.getDeclaredMethods()) {
            if (Modifier.isPrivate(method.getModifiers())) {
                continue;
            }
            StringBuilder types = new StringBuilder();
            for (Class<?> type : method.getParameterTypes()) {
                types.append(types.length() == 0 ? "" : ", ").append(type.getName());
            }
            has.add(method.getReturnType().getName() + " " + method.getName() + "(" + types + ")");
            names.add(method.getName());
            check(Modifier.isPublic(method.getModifiers()) && !Modifier.isStatic(method.getModifiers()), "not as due: " + method);
            check(method.getExceptionTypes().length == 0, "it tells an exception: " + method);
        }
        check(has.equals(due), "the face is " + has + ", due is " + due);
        check(Modifier.isPublic(QuiverKin.class.getModifiers()) && Modifier.isFinal(QuiverKin.class.getModifiers()), "public and final");
        check(QuiverKin.class.getDeclaredConstructors().length == 1 && QuiverKin.class.getConstructors().length == 1, "one constructor");
        for (Field field : QuiverKin.class.getDeclaredFields()) {
            check(Modifier.isPrivate(field.getModifiers()) || field.getName().equals("NONE"), "not private: " + field);
        }
        inside(names);
    }

    private static void inside(Set<String> names) {
        int classes = 1;
        for (Class<?> inside : QuiverKin.class.getDeclaredClasses()) {
            classes++;
            check(Modifier.isStatic(inside.getModifiers()) && !Modifier.isPublic(inside.getModifiers()), "not as due: " + inside);
            int fields = 0;
            for (Field field : inside.getDeclaredFields()) {
                boolean fixed = Modifier.isStatic(field.getModifiers());
                fields += fixed ? 0 : 1;
                check(!fixed || Modifier.isFinal(field.getModifiers()), "static, but not final: " + field);
            }
            check(fields <= 20, fields + " fields: " + inside);
            for (Method method : inside.getDeclaredMethods()) {
                check(!names.contains(method.getName()), "it bears the name of a public one: " + method);
                check(method.getParameterCount() <= 7, "more than seven parameters: " + method);
            }
        }
        for (Method method : QuiverKin.class.getDeclaredMethods()) {
            check(!Modifier.isPrivate(method.getModifiers()) || !names.contains(method.getName()), "it bears the name of a public one: " + method);
        }
        check(classes <= 12, classes + " classes");
    }

    private static void language() throws Exception {
        String source = Files.readString(Path.of("src/main/java/QuiverKin.java"));
        String code = source.replaceAll("(?s)/\\*.*?\\*/", "").replaceAll("//.*", "").replaceAll("\"[^\"\n]*\"", "\"\"");
        for (String word : new String[] {"throw", "throws", "try", "catch", "finally", "synchronized", "assert", "volatile", "native", "Object", "package",
            "var", "Random", "System", "Thread", "NaN", "hashCode", "toString", "protected", "transient"}) {
            check(!Pattern.compile("\\b" + word + "\\b").matcher(code).find(), "it has the word " + word);
        }
        check(!code.contains("->") && !code.contains("::"), "a lambda or a method reference");
        for (int i = 0; i < source.length(); i++) {
            check(source.charAt(i) < 128, "a sign above 127 at " + i);
        }
        int length = 0;
        for (String line : source.split("\n")) {
            length = line.startsWith("    private ") || line.startsWith("    public ") || line.startsWith("        private ") ? 0 : length + 1;
            check(length <= 60 || line.isBlank() || line.equals("}"), "a method of more than sixty lines, at: " + line);
        }
    }
}
