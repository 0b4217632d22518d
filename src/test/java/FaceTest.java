import java.lang.reflect.Constructor;
import java.lang.reflect.Field;
import java.lang.reflect.Method;
import java.lang.reflect.Modifier;
import java.nio.file.Files;
import java.nio.file.Path;
import java.util.Arrays;
import java.util.Set;
import java.util.TreeSet;
import java.util.stream.Collectors;

/** The document's face and no more of it, and the rules of LANGUAGE.md that a look can tell. */
public final class FaceTest {
    private static final Check CHECK = new Check("FaceTest");

    public static void main(String[] args) throws Exception {
        Class<?> c = OpcodeFrames.class;
        CHECK.due("the class's modifiers", Modifier.toString(c.getModifiers()), "public final");
        CHECK.due("NONE", OpcodeFrames.NONE, -1);
        CHECK.due("the methods", methods(c), Set.of(
                "public int OpcodeFrames.feed(int,int)",
                "public void OpcodeFrames.read() throws java.lang.IllegalArgumentException,java.lang.IllegalStateException",
                "public int OpcodeFrames.fault()",
                "public int OpcodeFrames.run(int) throws java.lang.IllegalStateException,java.lang.IllegalArgumentException",
                "public boolean OpcodeFrames.again()",
                "public int OpcodeFrames.about(int)",
                "public int OpcodeFrames.result(int)",
                "public int OpcodeFrames.stack(int,int)",
                "public int OpcodeFrames.local(int,int)",
                "public int OpcodeFrames.global(long,int)"));
        Set<String> fields = new TreeSet<>();
        for (Field field : c.getDeclaredFields()) {
            if (!Modifier.isPrivate(field.getModifiers())) {
                fields.add(field.toString());
            }
        }
        CHECK.due("the fields", fields, Set.of("public static final int OpcodeFrames.NONE"));
        CHECK.due("the constructors", Arrays.stream(c.getDeclaredConstructors())
                .map(Constructor::toString).collect(Collectors.toSet()), Set.of("public OpcodeFrames()"));
        for (Class<?> inner : c.getDeclaredClasses()) {
            CHECK.due(inner + " is static", Modifier.isStatic(inner.getModifiers()), true);
        }
        CHECK.due("at most twelve classes", c.getDeclaredClasses().length < 12, true);
        source();
        CHECK.end();
    }

    private static Set<String> methods(Class<?> c) {
        Set<String> names = new TreeSet<>();
        Set<String> open = new TreeSet<>();
        for (Method method : c.getDeclaredMethods()) {
            if (!Modifier.isPrivate(method.getModifiers())) {
                names.add(method.toString());
                open.add(method.getName());
            }
        }
        for (Class<?> inner : c.getDeclaredClasses()) {
            for (Method method : inner.getDeclaredMethods()) {
                CHECK.due(method + " bears no name of the face", open.contains(method.getName()), false);
            }
        }
        return names;
    }

    private static void source() throws Exception {
        String text = Files.readString(Path.of("src/main/java/OpcodeFrames.java"));
        for (String word : new String[] {"try", "catch", "finally", "synchronized", "assert",
                "double", "float", "package", "System", "Random"}) {
            CHECK.due("the word " + word, text.matches("(?s).*\\b" + word + "\\b.*"), false);
        }
        CHECK.due("lambdas and method references", text.contains("->") || text.contains("::"), false);
        CHECK.due("characters", text.chars().allMatch(letter -> letter < 128), true);
        Set<String> imports = text.lines().filter(line -> line.startsWith("import"))
                .collect(Collectors.toSet());
        CHECK.due("the imports", Set.of("import java.util.ArrayList;", "import java.util.Arrays;")
                .containsAll(imports), true);
    }
}
