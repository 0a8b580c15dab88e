import java.io.IOException;
import java.lang.reflect.Constructor;
import java.lang.reflect.Field;
import java.lang.reflect.Method;
import java.lang.reflect.Modifier;
import java.nio.file.Files;
import java.nio.file.Path;
import java.util.Arrays;
import java.util.List;
import java.util.Set;
import java.util.TreeSet;
import java.util.regex.Matcher;
import java.util.regex.Pattern;

/** The public face, and those rules of LANGUAGE.md that a look at the class and its source can tell. */
public final class LanguageTest {
    private static final String[] FACE = {"int town(int)", "int good(int, int)", "int person(int, int)",
        "int loan(int, int)", "int comes(int)", "int brings(int, int)", "int lends(int, int)", "int pays(int, int)",
        "int sames(int, int)", "int weeks(int)", "int worth(int, int)", "int would(int, int, int)",
        "int takes(int, int)", "int canPay(int)", "int bestPayment(int)", "int hasThen(int, int)",
        "int openThen(int)", "int cleared()", "int richest()", "int worst(int)", "int chain(int, int, int, int)",
        "int climb(int, int)", "int clearing(int)", "int quarrel(int, int)", "int shortest(int, int)",
        "int lent(int, int, int)", "int whatIs(int, int, int, int)", "int tastes(int, int)", "int two(int, int)",
        "long market(int, int, int, int)", "long mean(int, int)", "int forged(int, int)", "int judge(int)",
        "int towns(int, int, int)", "int image()", "int restore()", "int count(int)", "int keep(int, int, int, int)",
        "int row(int, int, int)", "int put(int, int, int)", "long element(int, int)",
        "int copy(int, int, int, int, int)", "int cost(int)", "int toss(int)"};
    private static final String[] FORBIDDEN = {"->", "::", "import ", "package ", "instanceof", "synchronized",
        "assert ", "finally", "getMessage", "Exact(", "Integer.M", "Long.M", "String.format", "System.out",
        "System.nanoTime", "System.currentTime", "Random", "Thread", "float ", "double ", "catch (Exception",
        "catch (RuntimeException", "catch (Throwable", "catch (IndexOutOfBounds", "catch (ArithmeticException",
        "NullPointerException", "ArrayIndexOutOfBounds", "ClassCastException", "NegativeArraySize"};

    private static int wrong = 0;

    private LanguageTest() {
    }

    public static void main(String[] args) throws IOException {
        Class<?> face = NotInTheCoin.class;
        face(face);
        for (Class<?> c : face.getDeclaredClasses()) {
            due(c.getName() + " is static", Modifier.isStatic(c.getModifiers()) || c.isInterface());
            due(c.getName() + " is not public", !Modifier.isPublic(c.getModifiers()));
            members(c);
        }
        due("twelve classes at most", face.getDeclaredClasses().length < 12);
        members(face);
        source(Files.readString(Path.of("src/main/java/NotInTheCoin.java")));
        System.out.println(wrong + " rules not kept");
        if (wrong != 0) {
            System.exit(1);
        }
    }

    private static void due(String what, boolean so) {
        if (!so) {
            wrong++;
            System.out.println("not so: " + what);
        }
    }

    private static void face(Class<?> face) {
        due("public final", face.getModifiers() == (Modifier.PUBLIC | Modifier.FINAL));
        Constructor<?>[] made = face.getDeclaredConstructors();
        due("one constructor", made.length == 1 && made[0].getParameterCount() == 0);
        due("a public constructor", made[0].getModifiers() == Modifier.PUBLIC);
        Set<String> names = new TreeSet<>();
        Set<String> found = new TreeSet<>();
        for (Method m : face.getDeclaredMethods()) {
            if (m.getModifiers() == Modifier.PUBLIC) {
                String types = Arrays.toString(Arrays.stream(m.getParameterTypes()).map(Class::getName).toArray());
                found.add(m.getReturnType() + " " + m.getName() + types.replace('[', '(').replace(']', ')'));
                names.add(m.getName());
                List<Class<?>> thrown = List.of(m.getExceptionTypes());
                due(m + " throws", thrown.isEmpty() != m.getName().equals("element"));
            } else {
                due(m + " is private", Modifier.isPrivate(m.getModifiers()));
            }
        }
        due("the face " + found, found.equals(new TreeSet<>(Arrays.asList(FACE))));
        for (Class<?> c : face.getDeclaredClasses()) {
            for (Method m : c.getDeclaredMethods()) {
                due(m + " bears a name of the face", !names.contains(m.getName()));
            }
        }
        for (Method m : face.getDeclaredMethods()) {
            due(m + " bears a name of the face", m.getModifiers() == Modifier.PUBLIC || !names.contains(m.getName()));
        }
        for (Field f : face.getDeclaredFields()) {
            due(f + " is private", Modifier.isPrivate(f.getModifiers()));
        }
    }

    private static void members(Class<?> c) {
        int fields = 0;
        for (Field f : c.getDeclaredFields()) {
            if (Modifier.isStatic(f.getModifiers())) {
                due(f + " is final", Modifier.isFinal(f.getModifiers()));
            } else {
                fields++;
            }
        }
        due("twenty fields at most in " + c, fields <= 20);
        for (Method m : c.getDeclaredMethods()) {
            due("seven parameters at most for " + m, m.getParameterCount() <= 7);
        }
    }

    private static void source(String source) {
        String code = source.replaceAll("(?s)/\\*.*?\\*/", "").replaceAll("//[^\n]*", "");
        for (String word : FORBIDDEN) {
            due("no " + word, !code.contains(word));
        }
        due("no sign above 127", code.chars().allMatch(sign -> sign < 128));
        Matcher method = Pattern.compile("(?ms)^( {4}| {8})(?! |\\}|private static final (int|long) )[^\n]*\\{\n.*?^\\1\\}\n")
            .matcher(code);
        while (method.find()) {
            String text = method.group();
            boolean isClass = text.startsWith("    private static final class");
            due("sixty lines at most: " + text.substring(0, text.indexOf('\n')),
                isClass || text.lines().count() <= 60);
            if (isClass) {
                method.region(method.start() + text.indexOf('\n') + 1, code.length());
            }
        }
    }
}
