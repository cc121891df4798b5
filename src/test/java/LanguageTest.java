import java.io.IOException;
import java.lang.reflect.Constructor;
import java.lang.reflect.Field;
import java.lang.reflect.Method;
import java.lang.reflect.Modifier;
import java.nio.file.Files;
import java.nio.file.Path;
import java.util.Arrays;
import java.util.List;
import java.util.Set;
import java.util.TreeSet;
import java.util.regex.Matcher;
import java.util.regex.Pattern;

/** What of LANGUAGE.md can be seen from outside: the face, the words of the source, sizes. */
public final class LanguageTest {
    private static final String CONSTANTS = "BAD NO FULL NONE NOTHING KIND INDEX SIZE";

    public static void main(String[] args) throws IOException {
        face();
        inside();
        String code = withoutComments(Files.readString(Path.of("src/main/java/BirthWeeks.java")));
        words(code);
        lengths(code);
        Due.end();
    }

    private static void face() {
        Set<String> methods = new TreeSet<>();
        for (Method m : BirthWeeks.class.getDeclaredMethods()) {
            if (!Modifier.isPrivate(m.getModifiers())) {
                Due.holds("rule 1: " + m, Modifier.isPublic(m.getModifiers()) && m.getReturnType() == int.class);
                for (Class<?> type : m.getParameterTypes()) {
                    Due.holds("rule 1: the arguments of " + m, type == int.class);
                }
                methods.add(m.getName() + ":" + m.getParameterCount());
            }
        }
        Due.holds("rule 1: the methods", methods.equals(new TreeSet<>(List.of(Calls.FACE.split(" ")))));
        Set<String> constants = new TreeSet<>();
        for (Field f : BirthWeeks.class.getDeclaredFields()) {
            if (!Modifier.isPrivate(f.getModifiers())) {
                constants.add(f.getName());
                Due.holds("rule 1: " + f, Modifier.isPublic(f.getModifiers()) && Modifier.isStatic(f.getModifiers())
                        && f.getType() == int.class);
            }
        }
        Due.holds("rule 1: the constants", constants.equals(new TreeSet<>(List.of(CONSTANTS.split(" ")))));
        Constructor<?>[] made = BirthWeeks.class.getDeclaredConstructors();
        Due.holds("rule 1: the constructor", made.length == 1 && made[0].getParameterCount() == 0
                && Modifier.isPublic(made[0].getModifiers()));
        Due.holds("rule 1: public and final", Modifier.isPublic(BirthWeeks.class.getModifiers())
                && Modifier.isFinal(BirthWeeks.class.getModifiers()));
    }

    private static void inside() {
        Set<String> names = new TreeSet<>();
        for (String s : Calls.FACE.split(" ")) {
            names.add(s.substring(0, s.indexOf(':')));
        }
        Class<?>[] classes = BirthWeeks.class.getDeclaredClasses();
        Due.holds("rule 11: twelve classes", classes.length < 12);
        sizes(BirthWeeks.class);
        for (Class<?> c : classes) {
            Due.holds("rule 2: " + c, Modifier.isStatic(c.getModifiers()) && Modifier.isPrivate(c.getModifiers()));
            sizes(c);
            for (Method m : c.getDeclaredMethods()) {
                Due.holds("rule 1: the name of " + m, !names.contains(m.getName()));
            }
        }
        for (Method m : BirthWeeks.class.getDeclaredMethods()) {
            if (Modifier.isPrivate(m.getModifiers())) {
                Due.holds("rule 1: the name of " + m, !names.contains(m.getName()));
            }
        }
    }

    private static void sizes(Class<?> c) {
        int fields = 0;
        for (Field f : c.getDeclaredFields()) {
            boolean constant = Modifier.isStatic(f.getModifiers());
            Due.holds("rule 5: " + f, !constant || Modifier.isFinal(f.getModifiers()));
            fields += constant ? 0 : 1;
        }
        Due.holds("rule 11: fields of " + c, fields <= 20);
        for (Method m : c.getDeclaredMethods()) {
            Due.holds("rule 11: parameters of " + m, m.getParameterCount() <= 7);
        }
    }

    private static String withoutComments(String source) {
        return source.replaceAll("(?s)/\\*.*?\\*/", "").replaceAll("//[^\n]*", "");
    }

    private static void words(String code) {
        for (String word : List.of("throw", "throws", "try", "catch", "finally", "synchronized", "assert", "import", "package",
                "NaN", "Exact", "equals", "hashCode", "toString", "System.out", "new Object", "double", "float")) {
            Due.holds("rule 3, 4, 6: no " + word, !Pattern.compile("\\b" + Pattern.quote(word) + "\\b").matcher(code).find());
        }
        Due.holds("rule 2: no lambda", !code.contains("->"));
        Due.holds("rule 2: no method reference", !code.contains("::"));
        Due.holds("rule 5: no static block", !Pattern.compile("static\\s*\\{").matcher(code).find());
        for (int i = 0; i < code.length(); i++) {
            Due.holds("rule 4: signs 1 to 127", code.charAt(i) < 128);
        }
        Matcher library = Pattern.compile("\\b(Math|System|Arrays|Integer|Long|String|StringBuilder)\\.(\\w+)").matcher(code);
        Set<String> allowed = new TreeSet<>(Arrays.asList("Math.min", "Math.max", "Math.abs", "System.arraycopy"));
        while (library.find()) {
            Due.holds("rule 4: " + library.group(), allowed.contains(library.group()));
        }
    }

    private static void lengths(String code) {
        int from = -1;
        String[] lines = code.split("\n");
        String indent = "";
        for (int i = 0; i < lines.length; i++) {
            Matcher head = Pattern.compile("^( {4,8})[a-zA-Z].*\\) \\{$").matcher(lines[i]);
            if (from < 0 && head.find()) {
                from = i;
                indent = head.group(1);
            } else if (from >= 0 && lines[i].equals(indent + "}")) {
                Due.holds("rule 11: the length of" + lines[from], i - from < 60);
                from = -1;
            }
        }
    }
}
