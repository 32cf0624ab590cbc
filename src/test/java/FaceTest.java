import java.io.IOException;
import java.lang.reflect.Constructor;
import java.lang.reflect.Field;
import java.lang.reflect.InvocationTargetException;
import java.lang.reflect.Method;
import java.lang.reflect.Modifier;
import java.nio.file.Files;
import java.nio.file.Path;
import java.util.ArrayList;
import java.util.Arrays;
import java.util.List;
import java.util.TreeSet;

/**
 * The class beside "The public face" of ../shared/DOC.md: its members, and the exceptions that each names, which
 * are thrown as they are named and no others, whatever is asked of an object in whatever state.
 */
public final class FaceTest {
    private static final Path DOCUMENT = Path.of("..", "shared", "DOC.md");
    private static final int[] WILD = {Integer.MIN_VALUE, -1, 0, 1, 2, 3, 4, 5, 6, 7, 8, 30, 99, 100, 1 << 30, Integer.MAX_VALUE};

    private FaceTest() {
    }

    public static void main(String[] args) throws IOException {
        if (Files.exists(DOCUMENT)) {
            sameSets("members", written(), documented());
        }
        classIsAsTold();
        nothingElseIsThrown();
        aWholeLife();
        Texts.end();
        System.out.println("the face is as told: " + written().size() + " members");
    }

    /** The lines of the face, each without its end, "public" and the names of arguments. */
    private static TreeSet<String> documented() throws IOException {
        TreeSet<String> lines = new TreeSet<>();
        String text = Files.readString(DOCUMENT);
        int begin = text.indexOf("```java", text.indexOf("## The public face"));
        String face = text.substring(begin, text.indexOf("```", begin + 7));
        for (String line : face.split("\n")) {
            String bare = line.trim();
            if (line.startsWith("    public ") && bare.endsWith(";")) {
                bare = bare.substring(7, bare.length() - 1);
                lines.add(bare.replaceAll("(int|boolean) \\w+(?=[,)])", "$1"));
            }
        }
        return lines;
    }

    private static TreeSet<String> written() {
        TreeSet<String> lines = new TreeSet<>();
        for (Field field : CoveredSigns.class.getDeclaredFields()) {
            if (!Modifier.isPrivate(field.getModifiers())) {
                lines.add(bare(field.getModifiers()) + field.getType().getSimpleName() + " " + field.getName() + " = " + CoveredSigns.NONE);
            }
        }
        for (Constructor<?> constructor : CoveredSigns.class.getDeclaredConstructors()) {
            lines.add(bare(constructor.getModifiers()) + "CoveredSigns" + list(constructor.getParameterTypes()));
        }
        for (Method method : CoveredSigns.class.getDeclaredMethods()) {
            if (!Modifier.isPrivate(method.getModifiers())) {
                lines.add(bare(method.getModifiers()) + method.getReturnType().getSimpleName() + " " + method.getName()
                        + list(method.getParameterTypes()) + thrown(method));
            }
        }
        return lines;
    }

    /** Modifiers as they stand in the document, but for "public"; what is not public shows. */
    private static String bare(int modifiers) {
        String rest = Modifier.toString(modifiers & ~Modifier.PUBLIC);
        return (Modifier.isPublic(modifiers) ? "" : "not public ") + (rest.isEmpty() ? "" : rest + " ");
    }

    private static String list(Class<?>[] types) {
        List<String> names = new ArrayList<>();
        for (Class<?> type : types) {
            names.add(type.getSimpleName());
        }
        return "(" + String.join(", ", names) + ")";
    }

    private static String thrown(Method method) {
        String names = list(method.getExceptionTypes());
        return names.equals("()") ? "" : " throws " + names.substring(1, names.length() - 1);
    }

    private static void classIsAsTold() {
        Texts.about("the class");
        Class<?> face = CoveredSigns.class;
        yes("public and final", Modifier.isPublic(face.getModifiers()) && Modifier.isFinal(face.getModifiers()));
        yes("no package", face.getPackageName().isEmpty());
        yes("no class above", face.getSuperclass() == Object.class && face.getInterfaces().length == 0);
        for (Class<?> inside : face.getDeclaredClasses()) {
            int modifiers = inside.getModifiers();
            yes(inside.getName() + " static", Modifier.isStatic(modifiers));
            yes(inside.getName() + " hidden", !Modifier.isPublic(modifiers) && !Modifier.isProtected(modifiers));
        }
    }

    /** Each method with wild numbers, on objects in several states, those that it changes made anew. */
    private static void nothingElseIsThrown() {
        for (Method method : CoveredSigns.class.getDeclaredMethods()) {
            if (!Modifier.isPublic(method.getModifiers())) {
                continue;
            }
            Texts.about("thrown by " + method.getName());
            TreeSet<String> seen = new TreeSet<>();
            for (int state = 0; state < 4; state++) {
                callAll(method, state, new Object[method.getParameterCount()], 0, seen);
            }
            TreeSet<String> named = new TreeSet<>();
            for (Class<?> exception : method.getExceptionTypes()) {
                named.add(exception.getName());
            }
            sameSets("exceptions", seen, named);
        }
    }

    private static CoveredSigns object(int state) {
        switch (state) {
            case 0:
                return new CoveredSigns();
            case 1:
                return Edges.rich();
            case 2:
                return Edges.full();
            default:
                return Texts.with("board 2 2;sign;across 0 0 2;mirror 0;turned 0;sign;down 1 0 2;word abcd;", "any 2");
        }
    }

    private static void callAll(Method method, int state, Object[] arguments, int filled, TreeSet<String> seen) {
        if (filled == arguments.length) {
            call(method, object(state), arguments, seen);
            return;
        }
        if (method.getParameterTypes()[filled] == boolean.class) {
            for (int so = 0; so < 2; so++) {
                arguments[filled] = so == 1;
                callAll(method, state, arguments, filled + 1, seen);
            }
            return;
        }
        // five wild numbers for each byte of the tape would be a million calls
        for (int wild : arguments.length > 3 ? new int[] {-1, 0x3b202020, Integer.MIN_VALUE} : WILD) {
            arguments[filled] = wild;
            callAll(method, state, arguments, filled + 1, seen);
        }
    }

    private static void call(Method method, CoveredSigns signs, Object[] arguments, TreeSet<String> seen) {
        try {
            method.invoke(signs, arguments);
        } catch (InvocationTargetException e) {
            seen.add(e.getCause().getClass().getName());
        } catch (IllegalAccessException e) {
            Texts.complain("can't be called: " + e);
        }
    }

    /** The sentence on 512 calls: the 512th is answered as the first is. */
    private static void aWholeLife() {
        Texts.about("512 calls");
        CoveredSigns x = new CoveredSigns();
        int calls = 0;
        for (int turn = 0; turn < 51; turn++) {
            String rule = turn % 2 == 0 ? "side 0 1 or side 1 1" : "any 1";
            String text = "board 3 2;sign;down 0 0 2;turned 0;word ";
            x.feed(Texts.number(text, 0), Texts.number(text, 4), Texts.number(text, 8), Texts.number(text, 12), Texts.number(text, 16));
            x.feed(Texts.number(text, 20), Texts.number(text, 24), Texts.number(text, 28), Texts.number(text, 32), Texts.number(text, 36));
            Texts.due("alphabet", x.alphabet(35), 2);
            x.feed(Texts.number(rule, 0), Texts.number(rule, 4), Texts.number(rule, 8), Texts.number(rule, 12), Texts.number(rule, 16));
            Texts.due("rule", x.rule(20), turn % 2 == 0 ? 2 : 6);
            Texts.due("dirt", x.dirt(1), 0);
            Texts.due("confusions", x.confusions(), turn % 2 == 0 ? 1 : 0);
            Texts.due("changed", x.changed(0), turn % 2 == 0 ? 1 : 0);
            Texts.due("stand", x.stand(0, 1, 2), 1);
            Texts.due("image", x.image(), 1);
            calls += 10;
        }
        Texts.due("restore", x.restore(), 0);
        Texts.due("told", x.told(5), 1);
        Texts.due("calls", calls + 2, 512);
    }

    private static void yes(String what, boolean so) {
        if (!so) {
            Texts.complain("not so: " + what);
        }
    }

    private static void sameSets(String what, TreeSet<String> got, TreeSet<String> want) {
        if (!got.equals(want)) {
            TreeSet<String> more = new TreeSet<>(got);
            more.removeAll(want);
            TreeSet<String> fewer = new TreeSet<>(want);
            fewer.removeAll(got);
            Texts.complain(what + ": too many " + more + ", missing " + fewer + " of " + Arrays.toString(want.toArray()));
        }
    }
}
