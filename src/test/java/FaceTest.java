import java.io.IOException;
import java.lang.reflect.Constructor;
import java.lang.reflect.Field;
import java.lang.reflect.Method;
import java.lang.reflect.Modifier;
import java.nio.file.Files;
import java.nio.file.Path;
import java.util.ArrayList;
import java.util.Collections;
import java.util.List;
import java.util.TreeMap;
import java.util.regex.Matcher;
import java.util.regex.Pattern;

/** The public face, and what of LANGUAGE.md can be read off the class and its source. */
public final class FaceTest {
    private static final Checks CHECKS = new Checks();
    private static final Class<?> HALL = TarockHall.class;
    private static final String[] METHODS = {
        "int announce(int) throws IndexOutOfBoundsException, IllegalStateException",
        "int bid(int) throws IllegalArgumentException, IllegalStateException",
        "int byPacks(int) throws IndexOutOfBoundsException",
        "int call(int) throws IndexOutOfBoundsException, IllegalStateException",
        "boolean canPlay(int) throws IndexOutOfBoundsException",
        "int called()",
        "int deal(int) throws IllegalArgumentException, IllegalStateException",
        "int declarer()",
        "int discard(int) throws IndexOutOfBoundsException, IllegalStateException",
        "long hand(int) throws IndexOutOfBoundsException",
        "int inTrick()",
        "int knows(int, int) throws IndexOutOfBoundsException",
        "int level()",
        "int partner()",
        "int phase()",
        "int play(int) throws IndexOutOfBoundsException, IllegalStateException",
        "int playLowest(int) throws IllegalArgumentException, IllegalStateException",
        "int radli(int) throws IndexOutOfBoundsException",
        "int result()",
        "int score(int) throws IndexOutOfBoundsException",
        "int take(int) throws IndexOutOfBoundsException, IllegalStateException",
        "int talonAt(int) throws IndexOutOfBoundsException, IllegalStateException",
        "int thirds(int) throws IndexOutOfBoundsException",
        "int trickAt(int) throws IndexOutOfBoundsException",
        "int tricks()",
        "int turn()",
        "int valueOf(int) throws IndexOutOfBoundsException",
    };
    /** Words and signs outside the part of Java that the rules leave, as far as a search can find them. */
    private static final String[] RULED_OUT = {
        "^\\s*(import|package)\\b", "->", "::", "\\b(catch|finally|synchronized|assert|volatile|transient)\\b",
        "\\bstatic\\s*\\{", "Exact\\(", "\\b(equals|hashCode|toString)\\(", "\\bSystem\\.(?!arraycopy)",
        "\\b(Object|Random|Thread|Stream|Optional|Map|Set|HashMap|Scanner|File|Runtime)\\b", "\"\\s*\\+|\\+\\s*\"",
    };

    public static void main(String[] args) throws IOException {
        constants();
        onlyTheFaceIsPublic();
        methods();
        classesInside();
        source(Files.readAllLines(Path.of("src/main/java/TarockHall.java")));
        CHECKS.end("the face");
    }

    private static void constants() {
        CHECKS.same("NONE", TarockHall.NONE, -1);
        CHECKS.same("OVER", TarockHall.OVER, 0);
        CHECKS.same("BIDDING", TarockHall.BIDDING, 1);
        CHECKS.same("CALLING", TarockHall.CALLING, 2);
        CHECKS.same("TAKING", TarockHall.TAKING, 3);
        CHECKS.same("DISCARDING", TarockHall.DISCARDING, 4);
        CHECKS.same("PLAYING", TarockHall.PLAYING, 5);
        CHECKS.same("PAGAT", TarockHall.PAGAT, 0);
        CHECKS.same("KING", TarockHall.KING, 1);
    }

    private static void onlyTheFaceIsPublic() {
        CHECKS.same("the class is", Modifier.toString(HALL.getModifiers()), "public final");
        Constructor<?>[] constructors = HALL.getDeclaredConstructors();
        CHECKS.same("constructors", constructors.length, 1);
        CHECKS.same("the constructor", constructors[0].toString(), "public TarockHall()");
        List<String> open = new ArrayList<>();
        for (Field field : HALL.getDeclaredFields()) {
            if (!Modifier.isPrivate(field.getModifiers())) {
                open.add(field.getName());
                CHECKS.same(field.getName(), Modifier.toString(field.getModifiers()), "public static final");
                CHECKS.same(field.getName(), field.getType().getName(), "int");
            }
        }
        Collections.sort(open);
        String due = "[BIDDING, CALLING, DISCARDING, KING, NONE, OVER, PAGAT, PLAYING, TAKING]";
        CHECKS.same("the constants", open.toString(), due);
    }

    private static void methods() {
        TreeMap<String, String> due = new TreeMap<>();
        for (String method : METHODS) {
            due.put(method.replaceAll("^\\w+ (\\w+).*", "$1"), method);
        }
        TreeMap<String, String> open = new TreeMap<>();
        for (Method method : HALL.getDeclaredMethods()) {
            if (Modifier.isPrivate(method.getModifiers())) {
                CHECKS.holds("the name of a public method: " + method, !due.containsKey(method.getName()));
            } else {
                CHECKS.same(method.getName(), Modifier.toString(method.getModifiers()), "public");
                open.put(method.getName(), signatureOf(method));
            }
        }
        CHECKS.same("the methods", open.toString(), due.toString());
    }

    private static String signatureOf(Method method) {
        String text = method.getReturnType().getName() + " " + method.getName() + "("
            + namesOf(method.getParameterTypes()) + ")";
        Class<?>[] thrown = method.getExceptionTypes();
        return thrown.length == 0 ? text : text + " throws " + namesOf(thrown);
    }

    private static String namesOf(Class<?>[] types) {
        List<String> names = new ArrayList<>();
        for (Class<?> type : types) {
            names.add(type.getSimpleName());
        }
        return String.join(", ", names);
    }

    private static void classesInside() {
        Class<?>[] inside = HALL.getDeclaredClasses();
        CHECKS.holds("at most some twelve classes", inside.length < 12);
        for (Class<?> one : inside) {
            CHECKS.holds("private and static: " + one, Modifier.isPrivate(one.getModifiers())
                && Modifier.isStatic(one.getModifiers()));
            checkFields(one);
        }
        checkFields(HALL);
    }

    private static void checkFields(Class<?> one) {
        int state = 0;
        for (Field field : one.getDeclaredFields()) {
            if (Modifier.isStatic(field.getModifiers())) {
                CHECKS.holds("a static field is final: " + field, Modifier.isFinal(field.getModifiers()));
            } else {
                state++;
            }
        }
        CHECKS.holds("at most some twenty fields: " + one, state <= 20);
    }

    private static void source(List<String> lines) {
        for (int k = 0; k < lines.size(); k++) {
            String line = lines.get(k);
            String code = line.replaceAll("//.*", "").replaceAll("^\\s*/?\\*.*", "");
            for (String ruledOut : RULED_OUT) {
                Matcher found = Pattern.compile(ruledOut).matcher(code);
                CHECKS.holds("line " + (k + 1) + " is ruled out: " + line, !found.find());
            }
            CHECKS.holds("line " + (k + 1) + " has other signs than ASCII", line.matches("[ -~]*"));
        }
    }
}
