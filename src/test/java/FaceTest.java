import java.lang.reflect.Constructor;
import java.lang.reflect.Executable;
import java.lang.reflect.Field;
import java.lang.reflect.Method;
import java.lang.reflect.Modifier;
import java.nio.charset.StandardCharsets;
import java.nio.file.Files;
import java.nio.file.Path;
import java.util.HashSet;
import java.util.Set;
import java.util.TreeSet;

/** The document's public face, and what of ../shared/LANGUAGE.md can be seen from outside. */
public final class FaceTest {
    private static final String FACE = """
        append(int) IAE ISE
        clearText()
        errorPosition(boolean)
        about(int) IAE
        at(int) IOOBE
        letter(int,int) IOOBE IAE
        reading(int,int) IOOBE IAE
        segment(int,int,int) IOOBE IAE
        find(int,int,int) IOOBE IAE
        walker(int,int) IOOBE IAE
        ring() ISE
        addWord() ISE
        removeWord(int) IOOBE
        carve(int,int) IOOBE IAE
        wear(int) IOOBE
        insert(int,int) IOOBE IAE ISE
        erase(int) IOOBE
        addWalker(int,int,int,int) IOOBE IAE ISE
        turn(int) IOOBE
        go(int) IAE
        undo() ISE
        meet(int,int) IOOBE ISE
        seesAll(int) IOOBE
        ifWorn(int,int) IOOBE
        bestDivider(int,int) IOOBE IAE
        bestDirection()
        canBe(int,int) IOOBE
        runScript(int,long) IAE
        simulate(long,int) IAE
        save(int) IOOBE
        restore(int) IOOBE ISE
        """;

    public static void main(String[] args) throws Exception {
        Class<RingReadings> type = RingReadings.class;
        Check.due("the class", Modifier.toString(type.getModifiers()), "public final");
        methods(type);
        Set<String> fields = new TreeSet<>();
        for (Field field : type.getDeclaredFields()) {
            if (!Modifier.isPrivate(field.getModifiers())) {
                fields.add(field.toString());
            }
            if (Modifier.isStatic(field.getModifiers())) {
                Check.due(field.getName() + " is final", Modifier.isFinal(field.getModifiers()) ? 1 : 0, 1);
            }
        }
        Check.due("the fields", fields.toString(), "[public static final int RingReadings.NONE]");
        Constructor<?>[] constructors = type.getDeclaredConstructors();
        Check.due("the constructors", constructors.length, 1);
        Check.due("the constructor", constructors[0].toString(), "public RingReadings()");
        for (Class<?> inner : type.getDeclaredClasses()) {
            int modifiers = inner.getModifiers();
            Check.due(inner.getName() + " is not public", modifiers & (Modifier.PUBLIC | Modifier.PROTECTED), 0);
            Check.due(inner.getName() + " is static", Modifier.isStatic(modifiers) ? 1 : 0, 1);
        }
        source();
        Check.finish();
    }

    private static void methods(Class<?> type) {
        Set<String> due = new TreeSet<>(FACE.lines().toList());
        Set<String> names = new HashSet<>();
        Set<String> got = new TreeSet<>();
        for (Method method : type.getDeclaredMethods()) {
            if (!Modifier.isPrivate(method.getModifiers())) {
                got.add(told(method));
                names.add(method.getName());
                Check.due(method.getName() + " is public alone", Modifier.toString(method.getModifiers()), "public");
                Check.due(method.getName() + " answers", method.getReturnType().getName(), "int");
            }
        }
        Check.due("the methods", got.toString(), due.toString());
        sharedNames(type, names);
        for (Class<?> inner : type.getDeclaredClasses()) {
            sharedNames(inner, names);
        }
    }

    private static void sharedNames(Class<?> type, Set<String> names) {
        for (Method method : type.getDeclaredMethods()) {
            boolean face = Modifier.isPublic(method.getModifiers());
            Check.due(type.getName() + "." + method.getName() + " has a public one's name", !face && names.contains(method.getName()) ? 1 : 0, 0);
            Check.due(method + " takes at most seven", Math.max(method.getParameterCount(), 7), 7);
        }
    }

    private static String told(Executable method) {
        StringBuilder s = new StringBuilder(method.getName()).append('(');
        for (Class<?> parameter : method.getParameterTypes()) {
            s.append(s.charAt(s.length() - 1) == '(' ? "" : ",").append(parameter.getName());
        }
        s.append(')');
        for (Class<?> exception : method.getExceptionTypes()) {
            s.append(' ').append(exception.getSimpleName().replaceAll("[a-z]", ""));
        }
        return s.toString();
    }

    private static void source() throws Exception {
        String source = new String(Files.readAllBytes(Path.of("src/main/java/RingReadings.java")), StandardCharsets.ISO_8859_1);
        Check.due("signs outside 1 to 127", source.matches("(?s)[\\x01-\\x7f]*") ? 1 : 0, 1);
        String[] ruledOut = {
            "import", "package", "try", "catch", "finally", "synchronized", "assert", "Object", "toString", "hashCode",
            "equals", "float", "double", "System.out", "record", "Thread", "Exact",
        };
        for (String word : ruledOut) {
            Check.due("'" + word + "' in the source", source.matches("(?s).*\\b" + word.replace(".", "\\.") + "\\b.*") ? 1 : 0, 0);
        }
        Check.due("a lambda or a method reference", source.contains("->") || source.contains("::") ? 1 : 0, 0);
    }
}
