import java.io.IOException;
import java.lang.reflect.Constructor;
import java.lang.reflect.Field;
import java.lang.reflect.Method;
import java.lang.reflect.Modifier;
import java.nio.charset.StandardCharsets;
import java.nio.file.Files;
import java.nio.file.Path;
import java.util.Set;
import java.util.TreeSet;
import java.util.regex.Matcher;
import java.util.regex.Pattern;

/** The public face, and those rules of LANGUAGE.md that a look at the text can check. */
public final class FaceTest {
    private static final Check CHECK = new Check();

    private static final Set<String> METHODS = Set.of(
            "addPicture/1", "paint/4", "setPlace/3", "setKind/2", "append/1", "clearText/0", "load/1",
            "setSecondArm/1", "setBroken/3", "set/2", "run/1", "undo/0",
            "count/1", "setting/1", "picture/2", "color/3", "broken/2", "place/3", "columnAt/2",
            "ticksAround/0", "gaps/1", "bestSpeed/1", "meetings/2");

    private static final String[] FORBIDDEN = {
        "throw", "throws", "try", "catch", "finally", "synchronized", "assert", "import", "package", "System.out",
        "System.in", "currentTimeMillis", "nanoTime", "Random", "Thread", "Exact", "protected",
    };

    public static void main(String[] args) throws IOException {
        constants();
        members();
        classesInside();
        source();
        library();
        methodLengths();
        CHECK.end();
    }

    private static void constants() {
        CHECK.due("INVALID_ARGUMENT", LightWheel.INVALID_ARGUMENT, -101);
        CHECK.due("ILLEGAL_STATE", LightWheel.ILLEGAL_STATE, -102);
        CHECK.due("CAPACITY_EXCEEDED", LightWheel.CAPACITY_EXCEEDED, -103);
        CHECK.due("NONE", LightWheel.NONE, -109);
    }

    private static void members() {
        int modifiers = LightWheel.class.getModifiers();
        CHECK.holds("the class is public and final", Modifier.isPublic(modifiers) && Modifier.isFinal(modifiers));
        Set<String> methods = new TreeSet<>();
        for (Method method : LightWheel.class.getDeclaredMethods()) {
            if (Modifier.isPrivate(method.getModifiers()) || method.isSynthetic()) {
                continue;
            }
            methods.add(method.getName() + "/" + method.getParameterCount());
            CHECK.holds(method + " is public and of int alone", Modifier.isPublic(method.getModifiers())
                    && !Modifier.isStatic(method.getModifiers()) && method.getReturnType() == int.class
                    && onlyInts(method.getParameterTypes()));
        }
        CHECK.holds("the methods are those of the face: " + methods, methods.equals(new TreeSet<>(METHODS)));
        Constructor<?>[] constructors = LightWheel.class.getDeclaredConstructors();
        CHECK.holds("one public constructor without parameters", constructors.length == 1
                && Modifier.isPublic(constructors[0].getModifiers()) && constructors[0].getParameterCount() == 0);
        int constants = 0;
        for (Field field : LightWheel.class.getDeclaredFields()) {
            int flags = field.getModifiers();
            if (!Modifier.isPrivate(flags)) {
                constants++;
                CHECK.holds(field + " is a public constant", Modifier.isPublic(flags) && Modifier.isStatic(flags)
                        && Modifier.isFinal(flags) && field.getType() == int.class);
            }
        }
        CHECK.due("public constants", constants, 4);
    }

    private static boolean onlyInts(Class<?>[] types) {
        for (Class<?> type : types) {
            if (type != int.class) {
                return false;
            }
        }
        return true;
    }

    /** Rules 1, 2, 5 and 11 for all classes of the file. */
    private static void classesInside() {
        Class<?>[] inside = LightWheel.class.getDeclaredClasses();
        CHECK.holds("at most twelve classes", inside.length < 12);
        wellFormed(LightWheel.class);
        for (Class<?> type : inside) {
            int modifiers = type.getModifiers();
            CHECK.holds(type + " is static", Modifier.isStatic(modifiers));
            CHECK.holds(type + " is not seen outside", !Modifier.isPublic(modifiers)
                    && !Modifier.isProtected(modifiers));
            CHECK.due(type + " has no classes inside", type.getDeclaredClasses().length, 0);
            wellFormed(type);
        }
        CHECK.holds("no anonymous class", LightWheel.class.getResource("LightWheel$1.class") == null);
    }

    private static void wellFormed(Class<?> type) {
        int fields = 0;
        for (Field field : type.getDeclaredFields()) {
            if (Modifier.isStatic(field.getModifiers())) {
                CHECK.holds(field + " is final", Modifier.isFinal(field.getModifiers()));
            } else {
                fields++;
            }
        }
        CHECK.holds(type + " has at most twenty fields", fields <= 20);
        for (Method method : type.getDeclaredMethods()) {
            CHECK.holds(method + " takes at most seven parameters", method.getParameterCount() <= 7);
            boolean publicName = METHODS.stream().anyMatch(face -> face.startsWith(method.getName() + "/"));
            CHECK.holds(method + " bears no public name", type == LightWheel.class
                    && Modifier.isPublic(method.getModifiers()) || !publicName);
        }
    }

    private static String readCode() throws IOException {
        byte[] bytes = Files.readAllBytes(Path.of("src/main/java/LightWheel.java"));
        return new String(bytes, StandardCharsets.ISO_8859_1)
                .replaceAll("(?s)/\\*.*?\\*/", " ").replaceAll("//[^\n]*", " ");
    }

    /** Rule 4: the library that is used. */
    private static void library() throws IOException {
        Set<String> allowed = Set.of("Math.min", "Math.max", "Math.abs", "Math.floorMod", "Math.floorDiv",
                "Long.bitCount", "Integer.bitCount", "System.arraycopy", "Arrays.fill");
        Matcher used = Pattern.compile("\\b([A-Z][a-z]\\w*\\.\\w+)").matcher(readCode());
        while (used.find()) {
            CHECK.holds(used.group(1) + " is allowed", allowed.contains(used.group(1)));
        }
        byte[] bytes = Files.readAllBytes(Path.of("src/main/java/LightWheel.java"));
        for (byte b : bytes) {
            if (b != '\n' && (b < 32 || b > 126)) {
                CHECK.holds("the sign " + b + " is allowed", false);
            }
        }
    }

    /** Rule 11: "Methods stay short (some sixty lines)" */
    private static void methodLengths() throws IOException {
        Matcher body = Pattern.compile("(?m)^( {4,8})[^ \n][^;\n]*\\) \\{$(?:\n.*)*?\n\\1\\}$").matcher(readCode());
        int methods = 0;
        while (body.find()) {
            methods++;
            String[] lines = body.group().split("\n");
            CHECK.holds("at most sixty lines: " + lines[0].trim(), lines.length <= 60);
        }
        CHECK.holds("the methods are found: " + methods, methods > 50);
    }

    private static void source() throws IOException {
        String code = readCode();
        for (String word : FORBIDDEN) {
            Matcher found = Pattern.compile("\\b" + Pattern.quote(word) + "\\b").matcher(code);
            CHECK.holds("the program does without " + word, !found.find());
        }
        CHECK.holds("no lambda and no method reference", !code.contains("->") && !code.contains("::"));
        Matcher hidden = Pattern.compile("private [\\w<>\\[\\] ]*?(\\w+)\\(").matcher(code);
        while (hidden.find()) {
            String name = hidden.group(1);
            CHECK.holds("private " + name + " bears no public name",
                    METHODS.stream().noneMatch(method -> method.startsWith(name + "/")));
        }
    }
}
