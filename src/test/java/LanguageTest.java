import java.io.IOException;
import java.lang.reflect.Constructor;
import java.lang.reflect.Field;
import java.lang.reflect.Method;
import java.lang.reflect.Modifier;
import java.nio.file.Files;
import java.nio.file.Path;
import java.util.Set;
import java.util.TreeSet;
import java.util.regex.Matcher;
import java.util.regex.Pattern;

/** The face of the class, and what of shared/LANGUAGE.md can be seen from outside and in the words. */
public final class LanguageTest {
    private static final Check CHECK = new Check();
    private static final Set<String> FACE = Set.of(
        "setTime int int int", "setBankTime int int", "set int int", "launch", "pass int", "lose int",
        "makeGood", "type char", "clearText", "undo", "keep", "restore", "time int int",
        "bankTime int", "house int int", "waiting int int int", "message int int", "total int",
        "quietIn", "idleIn", "planned int", "leastCoin");
    private static final String FORBIDDEN =
        "\\b(throw|throws|try|catch|finally|synchronized|assert|package|import|volatile|transient|native"
            + "|Object|System\\.(in|out|err|exit|nano|current)\\w*|Thread|Runtime|Random|Class)\\b|->|::|@\\w+\\(";

    public static void main(String[] args) throws IOException {
        face();
        for (Class<?> inner : CoinErrands.class.getDeclaredClasses()) {
            innerClass(inner);
        }
        words(args.length > 0 ? args[0] : "src/main/java/CoinErrands.java");
        CHECK.end();
    }

    private static void isSo(String what, boolean so) {
        CHECK.due(what, 1, so ? 1 : 0);
    }

    private static void face() {
        Class<?> it = CoinErrands.class;
        isSo("public and final", Modifier.isPublic(it.getModifiers()) && Modifier.isFinal(it.getModifiers()));
        Set<String> found = new TreeSet<>();
        Set<String> names = new TreeSet<>();
        for (Method method : it.getDeclaredMethods()) {
            if (Modifier.isPublic(method.getModifiers())) {
                found.add(signature(method));
                names.add(method.getName());
                isSo("an int " + method, method.getReturnType() == int.class && !Modifier.isStatic(method.getModifiers()));
            }
        }
        isSo("the face " + found, found.equals(FACE));
        for (Method method : it.getDeclaredMethods()) {
            boolean open = Modifier.isPublic(method.getModifiers());
            isSo("private " + method, open || Modifier.isPrivate(method.getModifiers()));
            isSo("a name of its own " + method, open || !names.contains(method.getName()));
        }
        for (Class<?> inner : it.getDeclaredClasses()) {
            for (Method method : inner.getDeclaredMethods()) {
                isSo("a name of its own " + method, !names.contains(method.getName()));
            }
        }
        Constructor<?>[] made = it.getDeclaredConstructors();
        isSo("one constructor", made.length == 1 && Modifier.isPublic(made[0].getModifiers()) && made[0].getParameterCount() == 0);
        fields(it, Set.of("UNKNOWN", "OUT_OF_RANGE", "FULL", "NONE"));
        isSo("at most twelve classes", it.getDeclaredClasses().length < 12);
    }

    private static String signature(Method method) {
        StringBuilder text = new StringBuilder(method.getName());
        for (Class<?> type : method.getParameterTypes()) {
            text.append(' ').append(type.getName());
        }
        return text.toString();
    }

    private static void fields(Class<?> it, Set<String> open) {
        int held = 0;
        for (Field field : it.getDeclaredFields()) {
            boolean isStatic = Modifier.isStatic(field.getModifiers());
            held += isStatic ? 0 : 1;
            isSo("a constant " + field, !isStatic || (Modifier.isFinal(field.getModifiers()) && field.getType() == int.class));
            if (it == CoinErrands.class) {
                isSo("private " + field, open.contains(field.getName()) == Modifier.isPublic(field.getModifiers())
                    && (Modifier.isPublic(field.getModifiers()) || Modifier.isPrivate(field.getModifiers())));
            }
        }
        isSo("few fields in " + it, held <= 20);
    }

    private static void innerClass(Class<?> inner) {
        isSo("static " + inner, Modifier.isStatic(inner.getModifiers()));
        isSo("not open " + inner, !Modifier.isPublic(inner.getModifiers()) && !Modifier.isProtected(inner.getModifiers()));
        isSo("nothing inside " + inner, inner.getDeclaredClasses().length == 0);
        fields(inner, Set.of());
        for (Method method : inner.getDeclaredMethods()) {
            isSo("few parameters " + method, method.getParameterCount() <= 7);
            isSo("not open " + method, !Modifier.isPublic(method.getModifiers()) && !Modifier.isProtected(method.getModifiers()));
        }
    }

    private static void words(String file) throws IOException {
        String source = Files.readString(Path.of(file));
        String code = source.replaceAll("(?s)/\\*.*?\\*/", "").replaceAll("//[^\n]*", "");
        Matcher matcher = Pattern.compile(FORBIDDEN).matcher(code);
        while (matcher.find()) {
            isSo("no '" + matcher.group() + "'", false);
        }
        isSo("only signs from 1 to 127", source.chars().allMatch(c -> c >= 1 && c <= 127));
    }
}
