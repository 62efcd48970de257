import java.io.IOException;
import java.lang.reflect.Constructor;
import java.lang.reflect.Field;
import java.lang.reflect.Method;
import java.lang.reflect.Modifier;
import java.nio.file.Files;
import java.nio.file.Path;
import java.util.Arrays;
import java.util.List;
import java.util.Set;
import java.util.TreeSet;
import java.util.regex.Matcher;
import java.util.regex.Pattern;
import java.util.stream.Collectors;

/** The document's public face, and those rules of LANGUAGE.md that a reader of signs can see. */
public final class LanguageTest {
    private static final String FACE = "row(int,int) lay(int,int,int) at(int,int) tear(int) copy(int,int,int,int,int) mean(int)"
        + " text(int,int) put(int,int,int) fault(int) deck(int) man(int,int) hook(int,int) mark(int,int) hang(int,int) down(int)"
        + " change(int,int) line(int,int) night(int) undo(int) keep(int) on(int) neighbours(int,int) woken(int,int) all(int)"
        + " worst(int) by(int,int) best(int,int) fair(int,int) mixed(int) judge(int,int) gain(int,int,int) calm(int) mates()"
        + " cut(int,int) up(int,int) fits(int) mid(int) lots(int,int) asked() upper() lower() count(int) finding() findings(int)"
        + " digest()";
    private static final Set<String> LONG_ANSWERS = Set.of("upper", "lower", "digest");
    private static final Set<String> CONSTANTS = Set.of("BAD", "FULL", "FINDING", "STATE", "SPENT", "NONE");
    private static final String[] RULED_OUT = {
        "\\b(throw|throws|try|catch|finally|synchronized|assert|volatile|transient|native|protected)\\b", "(?m)^(?!\\s*(case|default)\\b).*->", "::", "@",
        "\\b(Object|System\\.out|System\\.exit|Exception|Thread|Random)\\b", "\\w+Exact\\(", "\\b(MAX|MIN)_VALUE\\b",
        "\\bimport (?!java\\.util\\.(Arrays|ArrayList|List|Iterator);)", "\\bpackage\\b", "\\bstatic \\{", "while \\(true\\)", "for \\(;;"};
    // rule 4: of Integer, Long and Math any function over int and long but those ending in Exact
    private static final String LIBRARY = "(Math|Integer|Long)\\.[a-z]\\w*(?<!Exact)|Arrays\\.(copyOf|copyOfRange|fill)|System\\.arraycopy|List\\.of";

    public static void main(String[] args) throws IOException {
        classItself();
        methods();
        constants();
        names();
        String source = Files.readString(Path.of(System.getProperty("source", "src/main/java/HammockDeck.java")));
        source(withoutComments(source));
        lengths(source);
        Due.end();
    }

    private static void classItself() {
        int modifiers = HammockDeck.class.getModifiers();
        Due.isTrue("public and final", Modifier.isPublic(modifiers) && Modifier.isFinal(modifiers));
        Constructor<?>[] constructors = HammockDeck.class.getDeclaredConstructors();
        Due.is("constructors", constructors.length, 1);
        Due.isTrue("public, of nothing", Modifier.isPublic(constructors[0].getModifiers()) && constructors[0].getParameterCount() == 0);
        Class<?>[] inside = HammockDeck.class.getDeclaredClasses();
        Due.isTrue("some twelve classes at most", inside.length < 12);
        for (Class<?> each : inside) {
            Due.isTrue("static, not public: " + each, Modifier.isStatic(each.getModifiers())
                && !Modifier.isPublic(each.getModifiers()) && !Modifier.isProtected(each.getModifiers()));
            fields(each);
        }
        fields(HammockDeck.class);
    }

    private static void fields(Class<?> each) {
        int own = 0;
        for (Field field : each.getDeclaredFields()) {
            if (!Modifier.isStatic(field.getModifiers())) own++;
            else Due.isTrue("static and final: " + field, Modifier.isFinal(field.getModifiers()));
        }
        Due.isTrue("some twenty fields at most in " + each, own <= 20);
    }

    private static String shown(Method method) {
        return method.getName() + Arrays.stream(method.getParameterTypes()).map(Class::getName).collect(Collectors.joining(",", "(", ")"));
    }

    private static void methods() {
        Set<String> open = new TreeSet<>();
        for (Method method : HammockDeck.class.getDeclaredMethods()) {
            if (Modifier.isPrivate(method.getModifiers()) || method.isSynthetic()) continue;
            open.add(shown(method));
            Due.isTrue("public, of an object: " + method, Modifier.isPublic(method.getModifiers()) && !Modifier.isStatic(method.getModifiers()));
            Due.isTrue("answers: " + method, method.getReturnType() == (LONG_ANSWERS.contains(method.getName()) ? long.class : int.class));
        }
        Due.isTrue("the face: " + open, open.equals(new TreeSet<>(List.of(FACE.split(" ")))));
    }

    private static void constants() {
        Set<String> open = new TreeSet<>();
        for (Field field : HammockDeck.class.getDeclaredFields()) {
            if (Modifier.isPrivate(field.getModifiers())) continue;
            open.add(field.getName());
            Due.isTrue("a constant: " + field, Modifier.isPublic(field.getModifiers()) && Modifier.isStatic(field.getModifiers())
                && field.getType() == int.class);
        }
        Due.isTrue("the constants: " + open, open.equals(new TreeSet<>(CONSTANTS)));
    }

    /** No method of our own bears the name of a public one, nor one that all objects have. */
    private static void names() {
        Set<String> taken = Arrays.stream(FACE.split(" ")).map(each -> each.substring(0, each.indexOf('('))).collect(Collectors.toSet());
        taken.addAll(Set.of("equals", "hashCode", "toString"));
        for (Class<?> each : HammockDeck.class.getDeclaredClasses()) {
            for (Method method : each.getDeclaredMethods()) Due.isTrue("a name of its own: " + method, !taken.contains(method.getName()));
        }
        for (Method method : HammockDeck.class.getDeclaredMethods()) {
            boolean own = Modifier.isPrivate(method.getModifiers()) && !method.isSynthetic();
            Due.isTrue("a name of its own: " + method, !own || !taken.contains(method.getName()));
        }
    }

    private static String withoutComments(String source) {
        return source.replaceAll("(?s)/\\*.*?\\*/", " ").replaceAll("//[^\n]*", " ");
    }

    private static void source(String code) {
        for (String pattern : RULED_OUT) {
            Matcher found = Pattern.compile(pattern).matcher(code);
            while (found.find()) Due.is("ruled out: " + found.group() + " at sign " + found.start(), 1, 0);
        }
        Matcher library = Pattern.compile("\\b(Math|Integer|Long|Arrays|System|String|List)\\.(\\w+)").matcher(code);
        while (library.find()) Due.isTrue("of the library: " + library.group(), library.group().matches(LIBRARY));
    }

    /** Methods stay short: from a line that opens one to the brace that closes it. */
    private static void lengths(String source) {
        int begun = 0;
        String indent = "";
        String[] lines = source.split("\n");
        for (int i = 0; i < lines.length; i++) {
            Matcher opens = Pattern.compile("^( {4,8})[a-zA-Z].*\\) \\{$").matcher(lines[i]);
            if (opens.matches()) {
                begun = i;
                indent = opens.group(1);
            }
            if (lines[i].equals(indent + "}")) Due.isTrue("a short method at line " + (begun + 1), i - begun <= 60);
        }
    }
}
