import java.lang.reflect.Constructor;
import java.lang.reflect.Field;
import java.lang.reflect.Method;
import java.lang.reflect.Modifier;
import java.nio.file.Files;
import java.nio.file.Path;
import java.util.Arrays;
import java.util.Set;
import java.util.TreeSet;
import java.util.regex.Matcher;
import java.util.regex.Pattern;

/** The public face is the document's and no more; the text keeps to what LANGUAGE.md leaves. */
public final class FaceTest {
    private static final String[] FACE = {
        "int code(int)", "int exclude(int,int,int)", "int spell(int,int)", "int other(int)",
        "int carry(int,int,int)", "int answer(int,int,int)", "int put(int,int)", "int set(int,int)",
        "int rule(int,int,int)", "int with(int,int,int)", "int drop(int)", "int holds(int,int)",
        "int ruled(int)", "int quarrel(int)", "int reach(int)", "int gap(int,int)",
        "int likeness(int,int)", "int near(int,int)", "int liked(int)", "int day()", "int first()",
        "int settle(int,int,int)", "int recode()", "int second(int,int,int)", "int told(int,int)",
        "int coded(int)", "int total(int,int)", "long agree(int)", "int count(int)",
    };
    private static final String[] FORBIDDEN = {
        "throw", "throws", "try", "catch", "finally", "synchronized", "assert", "protected",
        "import", "package", "->", "::", "Exact\\b", "System\\.", "Thread", "Random", "hashCode",
        "toString", "double", "float", "record", "native", "volatile",
    };

    public static void main(String[] args) throws Exception {
        Due due = new Due();
        methods(due);
        fields(due);
        constructorsAndClasses(due);
        String code = code(due);
        words(due, code);
        libraryCalls(due, code);
        loops(due, code);
        sizes(due);
        lengths(due, code);
        due.end("FaceTest");
    }

    private static String shown(Method m) {
        StringBuilder text = new StringBuilder(m.getReturnType().getName() + " " + m.getName() + "(");
        for (int i = 0; i < m.getParameterCount(); i++) {
            text.append(i == 0 ? "" : ",").append(m.getParameterTypes()[i].getName());
        }
        return text.append(")").toString();
    }

    private static void methods(Due due) {
        Set<String> open = new TreeSet<>();
        Set<String> names = new TreeSet<>();
        for (Method m : WorkCoder.class.getDeclaredMethods()) {
            if (!Modifier.isPrivate(m.getModifiers())) {
                open.add(shown(m));
                names.add(m.getName());
                due.holds(m + " is public and of the object",
                        Modifier.isPublic(m.getModifiers()) && !Modifier.isStatic(m.getModifiers()));
            }
        }
        due.holds("the methods are the document's: " + open,
                open.equals(new TreeSet<>(Arrays.asList(FACE))));
        for (Method m : WorkCoder.class.getDeclaredMethods()) {
            due.holds(m + " bears no public name",
                    !Modifier.isPrivate(m.getModifiers()) || !names.contains(m.getName()));
        }
    }

    private static void fields(Due due) throws Exception {
        Set<String> open = new TreeSet<>();
        for (Field f : WorkCoder.class.getDeclaredFields()) {
            if (!Modifier.isPrivate(f.getModifiers())) {
                open.add(f.getName());
                due.holds(f + " is a constant", Modifier.isPublic(f.getModifiers())
                        && Modifier.isStatic(f.getModifiers()) && Modifier.isFinal(f.getModifiers())
                        && f.getType() == int.class);
            }
            due.holds(f + " is final if it is static",
                    !Modifier.isStatic(f.getModifiers()) || Modifier.isFinal(f.getModifiers()));
        }
        due.holds("the constants are the document's: " + open,
                open.equals(new TreeSet<>(Arrays.asList("BAD", "NOT", "FULL"))));
        due.is("BAD", WorkCoder.BAD, -1);
        due.is("NOT", WorkCoder.NOT, -2);
        due.is("FULL", WorkCoder.FULL, -3);
    }

    private static void constructorsAndClasses(Due due) {
        int mods = WorkCoder.class.getModifiers();
        due.holds("public and final", Modifier.isPublic(mods) && Modifier.isFinal(mods));
        Constructor<?>[] made = WorkCoder.class.getDeclaredConstructors();
        due.holds("one public constructor without parameters", made.length == 1
                && Modifier.isPublic(made[0].getModifiers()) && made[0].getParameterCount() == 0);
        for (Class<?> inside : WorkCoder.class.getDeclaredClasses()) {
            due.holds(inside + " is static and not public", Modifier.isStatic(inside.getModifiers())
                    && !Modifier.isPublic(inside.getModifiers())
                    && !Modifier.isProtected(inside.getModifiers()));
        }
    }

    // The checks are of words, so comments are taken away first.
    private static String code(Due due) throws Exception {
        String text = Files.readString(Path.of("src/main/java/WorkCoder.java"));
        due.holds("the text's signs are 1 to 127", text.chars().allMatch(c -> c >= 1 && c <= 127));
        return text.replaceAll("(?s)/\\*.*?\\*/", "").replaceAll("//[^\\n]*", "");
    }

    private static void words(Due due, String code) {
        for (String word : FORBIDDEN) {
            String sought = Character.isLetter(word.charAt(0)) && !word.contains("\\")
                    ? "\\b" + word + "\\b" : word;
            due.holds("the text has no '" + word + "'", !Pattern.compile(sought).matcher(code).find());
        }
    }

    private static void libraryCalls(Due due, String code) {
        Set<String> called = new TreeSet<>();
        Matcher m = Pattern.compile("\\b[A-Z]\\w*[a-z]\\w*\\.\\w+").matcher(code);
        while (m.find()) {
            called.add(m.group());
        }
        called.removeAll(Set.of("Math.max", "Math.min", "Long.bitCount"));
        due.holds("of the library nothing else is called: " + called, called.isEmpty());
        Set<String> made = new TreeSet<>();
        m = Pattern.compile("\\bnew (\\w+)").matcher(code);
        while (m.find()) {
            made.add(m.group(1));
        }
        made.removeAll(Set.of("int", "long", "Item", "Rule", "Scheme"));
        due.holds("nothing else is made: " + made, made.isEmpty());
    }

    /** Each loop counts up, by one, to a bound in its own line; nothing in it sets what it counts with. */
    private static void loops(Due due, String code) {
        due.holds("no while", !Pattern.compile("\\b(while|do)\\b").matcher(code).find());
        Matcher m = Pattern.compile("(?m)^( *)(for\\b[^\\n]*)").matcher(code);
        int loops = 0;
        while (m.find()) {
            Matcher parts = Pattern.compile("for \\(int (\\w+) = [^;]+; \\1 < [^;]+; \\1\\+\\+\\) \\{").matcher(m.group(2));
            String body = code.substring(m.end(), code.indexOf("\n" + m.group(1) + "}", m.end()));
            due.holds("its end can be seen: " + m.group(2), parts.matches()
                    && !Pattern.compile("(?<!\\.)\\b" + parts.group(1) + "( [-+*/|&]?= |\\+\\+|--)").matcher(body).find());
            loops++;
        }
        due.is("all loops were seen", loops, Pattern.compile("\\bfor\\b").matcher(code).results().count());
    }

    private static void sizes(Due due) {
        Class<?>[] inside = WorkCoder.class.getDeclaredClasses();
        due.holds("twelve classes at most", inside.length + 1 <= 12);
        sizesOf(due, WorkCoder.class);
        for (Class<?> one : inside) {
            sizesOf(due, one);
        }
    }

    private static void sizesOf(Due due, Class<?> one) {
        int fields = 0;
        for (Field f : one.getDeclaredFields()) {
            fields += Modifier.isStatic(f.getModifiers()) ? 0 : 1;
            Class<?> type = f.getType().isArray() ? f.getType().getComponentType() : f.getType();
            due.holds(f + " is of numbers or of a class inside", type == int.class || type == long.class
                    || type == boolean.class || type.getNestHost() == WorkCoder.class);
        }
        due.holds(one + " has twenty fields at most", fields <= 20);
        for (Method m : one.getDeclaredMethods()) {
            due.holds(m + " takes seven at most", m.getParameterCount() <= 7);
        }
    }

    private static void lengths(Due due, String code) {
        Matcher m = Pattern.compile("(?sm)^( +)[^\\n;=]*\\) \\{\\n.*?^\\1\\}").matcher(code);
        int methods = 0;
        while (m.find()) {
            long lines = m.group().lines().count();
            due.holds("sixty lines at most: " + m.group().strip().lines().findFirst().get(), lines <= 60);
            methods++;
        }
        due.holds("all methods were seen: " + methods, methods >= 29 + 20);
    }
}
