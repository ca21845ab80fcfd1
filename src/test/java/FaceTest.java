import java.io.IOException;
import java.lang.reflect.Constructor;
import java.lang.reflect.Field;
import java.lang.reflect.Method;
import java.lang.reflect.Modifier;
import java.nio.charset.StandardCharsets;
import java.nio.file.Files;
import java.nio.file.Path;
import java.util.Arrays;
import java.util.List;
import java.util.Set;
import java.util.TreeSet;
import java.util.regex.Matcher;
import java.util.regex.Pattern;

/** The public face, and of LANGUAGE.md what can be seen by looking at the class and its text. */
public final class FaceTest {
    private static final List<String> METHODS = List.of(
        "int type(int)", "int clear()", "int way()", "int walker(int,int)", "int thing(int,int)", "int stage(int,int)",
        "int gives(int,int)", "int leaves(int)", "int goes()", "int undo()", "int now(int)",
        "int rest(int)", "int spent(int)", "int soonest(int)", "int helps()", "int leave(int,int)", "int eat(int)",
        "int truly(int,int,int,int)", "long odds(int,int,int)", "int book(int,int,int)", "int burn()", "int sacks(int)",
        "int mark(int,int)", "int keep(int)", "int back(int)", "int count(int)", "long trace()");
    private static final List<String> CONSTANTS = List.of("BAD -1", "FULL -3", "NO -1000000", "NONE -9", "STATE -2");
    private static final List<String> FORBIDDEN = List.of("throw", "throws", "try", "catch", "finally", "synchronized", "assert",
        "import", "package", "protected", "native", "volatile", "hashCode", "getClass", "System\\.(?!arraycopy)", "\\w+Exact",
        "->", "::", "@", "new \\w+\\(\\) \\{", "static \\{", "while \\(true\\)", "for \\(;;\\)");

    private static int wrong = 0;

    private static void check(boolean holds, String what) {
        if (!holds) {
            wrong++;
            System.out.println(what);
        }
    }

    public static void main(String[] args) throws IOException, IllegalAccessException {
        face();
        inside();
        words(Files.readString(Path.of("src/main/java/TentBearers.java"), StandardCharsets.ISO_8859_1));
        System.out.println(wrong == 0 ? "the face is as due" : wrong + " faults of the face");
        if (wrong != 0) {
            System.exit(1);
        }
    }

    private static void face() throws IllegalAccessException {
        Class<?> c = TentBearers.class;
        check(Modifier.isPublic(c.getModifiers()) && Modifier.isFinal(c.getModifiers()), "the class is public and final");
        Set<String> open = new TreeSet<>();
        for (Method m : c.getDeclaredMethods()) {
            if (!Modifier.isPrivate(m.getModifiers()) && !m.isSynthetic()) {
                check(Modifier.isPublic(m.getModifiers()) && !Modifier.isStatic(m.getModifiers()), m + " is open");
                open.add(signature(m));
            }
        }
        check(open.equals(new TreeSet<>(METHODS)), "the public methods are " + open);
        Set<String> constants = new TreeSet<>();
        for (Field f : c.getDeclaredFields()) {
            if (!Modifier.isPrivate(f.getModifiers()) && !f.isSynthetic()) {
                check(f.getType() == int.class && Modifier.isStatic(f.getModifiers()) && Modifier.isFinal(f.getModifiers()),
                    f + " is no constant");
                constants.add(f.getName() + " " + f.getInt(null));
            }
        }
        check(constants.equals(new TreeSet<>(CONSTANTS)), "the constants are " + constants);
        Constructor<?>[] made = c.getDeclaredConstructors();
        check(made.length == 1 && Modifier.isPublic(made[0].getModifiers()) && made[0].getParameterCount() == 0, "the constructor");
    }

    private static String signature(Method m) {
        StringBuilder s = new StringBuilder(m.getReturnType().getName() + " " + m.getName() + "(");
        for (int i = 0; i < m.getParameterCount(); i++) {
            s.append(i == 0 ? "" : ",").append(m.getParameterTypes()[i].getName());
        }
        return s.append(")").toString();
    }

    private static void inside() {
        Set<String> names = new TreeSet<>();
        METHODS.forEach(m -> names.add(m.replaceAll(".* |\\(.*", "")));
        Class<?>[] classes = TentBearers.class.getDeclaredClasses();
        check(classes.length <= 11, "too many classes: " + classes.length);
        for (Class<?> c : classes) {
            check(Modifier.isStatic(c.getModifiers()) && !Modifier.isPublic(c.getModifiers()), c + " is not static or is public");
            for (Method m : c.getDeclaredMethods()) {
                check(!names.contains(m.getName()), m + " bears the name of a public one");
                check(m.getParameterCount() <= 7, m + " takes too many");
            }
            fields(c);
        }
        fields(TentBearers.class);
    }

    private static void fields(Class<?> c) {
        long own = Arrays.stream(c.getDeclaredFields()).filter(f -> !Modifier.isStatic(f.getModifiers())).count();
        check(own <= 20, c + " has " + own + " fields");
        for (Field f : c.getDeclaredFields()) {
            boolean isStatic = Modifier.isStatic(f.getModifiers()) && !f.isSynthetic();
            check(!isStatic || Modifier.isFinal(f.getModifiers()), f + " is static and not final");
        }
    }

    private static void words(String source) {
        check(source.chars().allMatch(ch -> ch == '\n' || ch >= 32 && ch < 127), "a sign beyond 127");
        String code = source.replaceAll("(?s)/\\*.*?\\*/", "").replaceAll("//[^\n]*", "");
        for (String word : FORBIDDEN) {
            Matcher m = Pattern.compile(Character.isLetter(word.charAt(0)) ? "\\b" + word : word).matcher(code);
            check(!m.find(), "LANGUAGE.md does not leave: " + word);
        }
        int length = 0;
        for (String line : source.split("\n")) {
            length = line.matches(" {4,8}}") ? 0 : length + 1;
            check(length <= 60 || !line.startsWith("            "), "a method is too long: " + line);
        }
    }
}
