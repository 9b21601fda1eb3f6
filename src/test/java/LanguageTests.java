import java.io.IOException;
import java.lang.reflect.Constructor;
import java.lang.reflect.Field;
import java.lang.reflect.Method;
import java.lang.reflect.Modifier;
import java.nio.file.Files;
import java.nio.file.Path;
import java.util.Set;
import java.util.TreeSet;
import java.util.regex.Matcher;
import java.util.regex.Pattern;

/** The face of the document, and those rules of LANGUAGE.md that can be seen from the text or the classes. */
final class LanguageTests {
    private static final Path SOURCE = Path.of("src/main/java/MarketTown.java");
    private static final Set<String> FACE = Set.of("agent/2", "give/3", "good/3", "recipe/5", "policy/2", "lots/1", "feed/5",
            "trim/1", "rule/1", "unrule/1", "live/1", "about/2", "isOf/2", "has/3", "told/3", "goods/2", "paid/3", "loan/2",
            "median/1", "save/1", "load/1", "differs/1", "count/1");
    private static final int MOST_LINES = 60, MOST_PARAMETERS = 7, MOST_CLASSES = 12, MOST_FIELDS = 20;
    private static final Expect is = new Expect();

    public static void main(String[] args) throws IOException {
        String text = withoutComments(Files.readString(SOURCE));
        face();
        words(text);
        library(text);
        methodLengths(text);
        classes();
        is.end();
    }

    private static void face() {
        is.holds("1: public and final", Modifier.isPublic(MarketTown.class.getModifiers())
                && Modifier.isFinal(MarketTown.class.getModifiers()));
        Set<String> found = new TreeSet<>();
        for (Method method : MarketTown.class.getDeclaredMethods()) {
            boolean isPrivate = Modifier.isPrivate(method.getModifiers());
            if (!isPrivate) {
                found.add(method.getName() + "/" + method.getParameterCount());
                is.holds("1: answers int: " + method, method.getReturnType() == int.class);
                is.holds("1: public: " + method, Modifier.isPublic(method.getModifiers()));
            }
        }
        is.holds("1: the methods are those of the document: " + found, found.equals(FACE));
        for (Constructor<?> constructor : MarketTown.class.getDeclaredConstructors()) {
            is.holds("1: the constructor", constructor.getParameterCount() == 0 && Modifier.isPublic(constructor.getModifiers()));
        }
        Set<String> constants = new TreeSet<>();
        for (Field field : MarketTown.class.getDeclaredFields()) {
            if (!Modifier.isPrivate(field.getModifiers())) {
                constants.add(field.getName());
            }
        }
        is.holds("1: the constants: " + constants, constants.equals(Set.of("BAD", "NO", "FULL", "NONE")));
        is.due("BAD", MarketTown.BAD, -1000000001);
        is.due("NO", MarketTown.NO, -1000000002);
        is.due("FULL", MarketTown.FULL, -1000000003);
        is.due("NONE", MarketTown.NONE, -1000000005);
    }

    private static String withoutComments(String text) {
        return text.replaceAll("(?s)/\\*.*?\\*/", "").replaceAll("//[^\\n]*", "");
    }

    private static void words(String text) {
        String[] banned = {"throw", "throws", "try", "catch", "synchronized", "assert", "package", "protected", "native",
            "volatile", "hashCode"};
        for (String word : banned) {
            is.holds("no " + word, !Pattern.compile("\\b" + word + "\\b").matcher(text).find());
        }
        is.holds("2: no lambda", !text.contains("->"));
        is.holds("2: no method reference", !text.contains("::"));
        is.holds("4: no Exact", !text.contains("Exact"));
        is.holds("5: no static block", !Pattern.compile("\\bstatic\\s*\\{").matcher(text).find());
        for (int i = 0; i < text.length(); i++) {
            if (text.charAt(i) > 255) {
                is.due("3: characters 0 to 255, at " + i, text.charAt(i), 255);
            }
        }
    }

    /** What is brought in, and what is called of the library's classes by their names. */
    private static void library(String text) {
        Matcher brought = Pattern.compile("\\bimport\\s+([\\w.*]+)").matcher(text);
        Set<String> known = Set.of("java.util.ArrayList", "java.util.List", "java.util.Arrays", "java.util.Iterator");
        while (brought.find()) {
            is.holds("4: " + brought.group(), known.contains(brought.group(1)));
        }
        Matcher called = Pattern.compile("\\b(System|Arrays|Character|Objects|Collections|Runtime|Thread)\\.(\\w+)").matcher(text);
        Set<String> allowed = Set.of("System.arraycopy", "Arrays.copyOf", "Arrays.copyOfRange", "Arrays.fill");
        while (called.find()) {
            is.holds("4: " + called.group(), allowed.contains(called.group()));
        }
        Matcher constant = Pattern.compile("\\b(Integer|Long|Math)\\.\\w+\\b(?!\\s*\\()").matcher(text);
        is.holds("4: of Integer, Long and Math functions alone", !constant.find());
    }

    private static void methodLengths(String text) {
        String[] lines = text.split("\n");
        Pattern head = Pattern.compile("^\\s+(private |public |static |final )*[\\w\\[\\]]+ (\\w+)\\([^;]*\\) \\{$");
        for (int i = 0; i < lines.length; i++) {
            Matcher matcher = head.matcher(lines[i]);
            if (matcher.matches() && !lines[i].trim().startsWith("else")) {
                int indent = lines[i].length() - lines[i].stripLeading().length();
                int end = i + 1;
                while (end < lines.length && !lines[end].equals(" ".repeat(indent) + "}")) {
                    end++;
                }
                is.holds("11: lines of " + matcher.group(2), end - i + 1 <= MOST_LINES);
            }
        }
    }

    private static void classes() {
        Class<?>[] inside = MarketTown.class.getDeclaredClasses();
        is.holds("11: classes", inside.length + 1 <= MOST_CLASSES);
        check(MarketTown.class);
        Set<String> names = new TreeSet<>();
        for (String method : FACE) {
            names.add(method.substring(0, method.indexOf('/')));
        }
        for (Class<?> one : inside) {
            is.holds("1: static: " + one, Modifier.isStatic(one.getModifiers()));
            is.holds("1: not public: " + one, !Modifier.isPublic(one.getModifiers()) && !Modifier.isProtected(one.getModifiers()));
            check(one);
            for (Method method : one.getDeclaredMethods()) {
                is.holds("1: no other method is named " + method.getName(), !names.contains(method.getName()));
            }
        }
    }

    private static void check(Class<?> one) {
        int fields = 0;
        for (Field field : one.getDeclaredFields()) {
            if (Modifier.isStatic(field.getModifiers())) {
                is.holds("5: final: " + field, Modifier.isFinal(field.getModifiers()));
            } else {
                fields++;
            }
        }
        is.holds("11: fields of " + one, fields <= MOST_FIELDS);
        for (Method method : one.getDeclaredMethods()) {
            is.holds("11: parameters of " + method, method.getParameterCount() <= MOST_PARAMETERS);
            if (one == MarketTown.class && Modifier.isPrivate(method.getModifiers())) {
                is.holds("1: a private name: " + method, !FACE.toString().matches(".*\\b" + method.getName() + "/.*"));
            }
        }
    }
}
