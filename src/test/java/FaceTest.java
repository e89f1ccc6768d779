import java.io.IOException;
import java.lang.reflect.Field;
import java.lang.reflect.Method;
import java.lang.reflect.Modifier;
import java.nio.file.Files;
import java.nio.file.Path;
import java.util.Arrays;
import java.util.Set;
import java.util.TreeSet;
import java.util.regex.Matcher;
import java.util.regex.Pattern;

@Case("the public face, and those rules of LANGUAGE.md that a program can look after")
public final class FaceTest {
    private static final Set<String> METHODS = Set.of(
        "long get 2", "int set 3", "int zero 2", "int copy 3", "int resize 1", "int make 1", "int free 1",
        "int block 2", "int linear 7", "int binary 7", "int linked 6", "int protect 2", "int keep 0", "int back 0",
        "int restart 0", "int same 0", "int write 0", "int code 1", "int poke 2", "int cut 1", "int read 0",
        "int told 1");
    private static final Set<String> CONSTANTS = Set.of(
        "NONE -1", "BAD -11", "OUTSIDE -12", "READONLY -13", "BUSY -14", "FULL -15", "ENDLESS -16");
    private static final Pattern FORBIDDEN = Pattern.compile(
        "\\b(throw|throws|try|catch|finally|synchronized|assert|protected|package|volatile|native)\\b|->|::|Exact\\b");

    private static final Set<String> IMPORTS = Set.of(
        "java.util.Arrays", "java.util.ArrayList", "java.util.List", "java.util.Iterator");

    public static void main(String[] arguments) {
        Cases.run(FaceTest.class);
    }

    @Case("the class is public and final, with one constructor, that is public")
    static void type() {
        expect("modifiers", Modifier.PUBLIC | Modifier.FINAL, GlulxHeap.class.getModifiers());
        expect("constructors", 1, GlulxHeap.class.getDeclaredConstructors().length);
        expect("public constructors", 1, GlulxHeap.class.getConstructors().length);
    }

    @Case("the methods of the document and no other that can be seen; no private one bears the name of a public one")
    static void methods() {
        Set<String> seen = new TreeSet<>();
        Set<String> hidden = new TreeSet<>();
        for (Method method : GlulxHeap.class.getDeclaredMethods()) {
            if (Modifier.isPrivate(method.getModifiers())) {
                hidden.add(method.getName());
                continue;
            }
            boolean plain = method.getModifiers() == Modifier.PUBLIC
                && Arrays.stream(method.getParameterTypes()).allMatch(type -> type == int.class);
            seen.add((plain ? "" : "not plain: ") + method.getReturnType() + " " + method.getName() + " "
                + method.getParameterCount());
        }
        expect("methods", new TreeSet<>(METHODS), seen);
        for (String method : METHODS) {
            if (hidden.contains(method.split(" ")[1])) {
                Cases.fault("a private method bears the name of a public one: " + method);
            }
        }
    }

    @Case("the constants of the document and no other field that can be seen; static fields are final")
    static void constants() throws IllegalAccessException {
        Set<String> seen = new TreeSet<>();
        for (Field field : GlulxHeap.class.getDeclaredFields()) {
            int modifiers = field.getModifiers();
            if (Modifier.isStatic(modifiers) && !Modifier.isFinal(modifiers)) {
                Cases.fault("a static field that is not final: " + field);
            }
            if (!Modifier.isPrivate(modifiers)) {
                seen.add(field.getName() + " " + field.get(null));
            }
        }
        expect("constants", new TreeSet<>(CONSTANTS), seen);
    }

    @Case("classes inside are static, and not public")
    static void nestedClasses() {
        for (Class<?> nested : GlulxHeap.class.getDeclaredClasses()) {
            int modifiers = nested.getModifiers();
            if (!Modifier.isStatic(modifiers) || Modifier.isPublic(modifiers)) {
                Cases.fault("a class inside is not static, or is public: " + nested);
            }
        }
    }

    @Case("no word that LANGUAGE.md leaves out, and no import but what it lists")
    static void source() throws IOException {
        String text = Files.readString(Path.of(System.getProperty("source")));
        String bare = text.replaceAll("(?s)/\\*.*?\\*/", "").replaceAll("//[^\n]*", "");
        bare = bare.replaceAll("\\b(case\\b[^;{}]*?|default\\s*)->", "");
        Matcher matcher = FORBIDDEN.matcher(bare);
        while (matcher.find()) {
            Cases.fault("LANGUAGE.md leaves out: " + matcher.group());
        }
        Matcher imports = Pattern.compile("import ([^;]*);").matcher(bare);
        while (imports.find()) {
            expect("import " + imports.group(1), true, IMPORTS.contains(imports.group(1)));
        }
    }

    private static void expect(String what, Object due, Object got) {
        if (!due.equals(got)) {
            Cases.fault(what + ": due is " + due + ", there is " + got);
        }
    }
}
