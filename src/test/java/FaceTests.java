import java.lang.reflect.Constructor;
import java.lang.reflect.Field;
import java.lang.reflect.Method;
import java.lang.reflect.Modifier;
import java.nio.file.Files;
import java.nio.file.Path;
import java.util.Set;
import java.util.TreeSet;
import java.util.regex.Matcher;
import java.util.regex.Pattern;

/** The face is the document's and nothing beside it; the source keeps out of what LANGUAGE.md rules out. */
public final class FaceTests {
    private static final Due DUE = new Due();

    private static final String[] METHODS = {
        "int set(int,int)", "int shares(int,int,int)", "int season(int,int)", "int share(int)",
        "int duty(int,int,int,int,int,int)", "int on(int,boolean)", "int drop()", "int drain(int,int)",
        "int life(int)", "int charge(int,int)", "int price(int)", "int plan(int,int)",
        "int sign(int,int)", "int forget()", "int level(int,int)", "int agrees(int)",
        "int field(int)", "int count(int)", "long trace()"
    };

    private static String told(Method method) {
        StringBuilder text = new StringBuilder();
        text.append(method.getReturnType()).append(' ').append(method.getName()).append('(');
        for (Class<?> type : method.getParameterTypes()) {
            if (text.charAt(text.length() - 1) != '(') text.append(',');
            text.append(type);
        }
        return text.append(')').toString();
    }

    private static void methods() {
        Set<String> open = new TreeSet<>(), names = new TreeSet<>();
        for (Method method : CellDays.class.getDeclaredMethods()) {
            if (Modifier.isPrivate(method.getModifiers())) continue;
            open.add(told(method));
            names.add(method.getName());
            DUE.is("modifiers of " + method.getName(), Modifier.PUBLIC, method.getModifiers());
        }
        DUE.same("the face", new TreeSet<>(Set.of(METHODS)).toString(), open.toString());
        for (Method method : CellDays.class.getDeclaredMethods()) {
            if (Modifier.isPrivate(method.getModifiers())) {
                DUE.holds("a private name of its own, " + method.getName(), !names.contains(method.getName()));
            }
        }
    }

    private static void fields() {
        Set<String> open = new TreeSet<>();
        for (Field field : CellDays.class.getDeclaredFields()) {
            if (!Modifier.isPrivate(field.getModifiers())) {
                open.add(field.getName());
                DUE.is("modifiers of " + field.getName(),
                    Modifier.PUBLIC | Modifier.STATIC | Modifier.FINAL, field.getModifiers());
            }
        }
        DUE.same("the constants", "[BAD, FULL, NONE, STATE]", open.toString());
        DUE.is("BAD", -1, CellDays.BAD);
        DUE.is("STATE", -2, CellDays.STATE);
        DUE.is("FULL", -3, CellDays.FULL);
        DUE.is("NONE", -9, CellDays.NONE);
    }

    private static void shape() {
        Constructor<?>[] made = CellDays.class.getDeclaredConstructors();
        DUE.is("constructors", 1, made.length);
        DUE.is("its modifiers", Modifier.PUBLIC, made[0].getModifiers());
        DUE.is("its parameters", 0, made[0].getParameterCount());
        DUE.is("the class's modifiers", Modifier.PUBLIC | Modifier.FINAL, CellDays.class.getModifiers());
        for (Class<?> inside : CellDays.class.getDeclaredClasses()) {
            DUE.holds(inside.getName() + " is static", Modifier.isStatic(inside.getModifiers()));
        }
    }

    private static void source() throws Exception {
        String text = Files.readString(Path.of("src/main/java/CellDays.java"));
        String code = text.replaceAll("(?s)/\\*.*?\\*/", " ").replaceAll("//[^\n]*", " ");
        for (String word : new String[] {"throw", "try", "catch", "synchronized", "assert", "import", "package"}) {
            DUE.holds("no word " + word, !code.matches("(?s).*\\b" + word + "\\b.*"));
        }
        DUE.holds("no lambda, no method reference", !code.contains("->") && !code.contains("::"));
        library(code);
    }

    private static void library(String code) {
        Set<String> own = new TreeSet<>();
        for (Class<?> inside : CellDays.class.getDeclaredClasses()) own.add(inside.getSimpleName());
        Matcher used = Pattern.compile("\\b([A-Z]\\w*[a-z]\\w*)\\.(\\w+)").matcher(code);
        while (used.find()) {
            if (own.contains(used.group(1))) continue;
            boolean listed = used.group(1).matches("Math|Integer|Long") && !used.group(2).endsWith("Exact")
                || used.group().matches("System\\.arraycopy|Arrays\\.(copyOf|copyOfRange|fill)");
            DUE.holds("rule 4 lists " + used.group(), listed);
        }
    }

    /** Bounds that LANGUAGE.md sets to every class of the file. */
    private static void classes() {
        Class<?>[] inside = CellDays.class.getDeclaredClasses();
        DUE.holds("some twelve classes at most", inside.length < 12);
        bounds(CellDays.class);
        for (Class<?> one : inside) {
            DUE.is(one.getName() + " is not open", 0, one.getModifiers() & (Modifier.PUBLIC | Modifier.PROTECTED));
            bounds(one);
        }
    }

    private static void bounds(Class<?> one) {
        int held = 0;
        for (Field field : one.getDeclaredFields()) {
            boolean still = Modifier.isStatic(field.getModifiers());
            held += still ? 0 : 1;
            DUE.holds(field + " is final, if static", !still || Modifier.isFinal(field.getModifiers()));
        }
        DUE.holds("some twenty fields at most in " + one.getName(), held <= 20);
        for (Method method : one.getDeclaredMethods()) {
            DUE.holds("seven parameters at most of " + method, method.getParameterCount() <= 7);
        }
        for (Constructor<?> made : one.getDeclaredConstructors()) {
            DUE.holds("seven parameters at most of " + made, made.getParameterCount() <= 7);
        }
    }

    public static void main(String[] args) throws Exception {
        methods();
        fields();
        shape();
        classes();
        source();
        DUE.end();
    }
}
