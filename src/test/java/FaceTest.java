import java.io.IOException;
import java.lang.reflect.Constructor;
import java.lang.reflect.Field;
import java.lang.reflect.Member;
import java.lang.reflect.Method;
import java.lang.reflect.Modifier;
import java.nio.file.Files;
import java.nio.file.Path;
import java.util.ArrayList;
import java.util.List;
import java.util.TreeSet;
import java.util.regex.Matcher;
import java.util.regex.Pattern;

/** The public face as the document has it, and words that may not stand in the file; LanguageTest has the rest. */
public final class FaceTest {
    private static final String FACE = "back(1) clear(0) count(1) court(0) deed(2) does(2) done(2) fits(0) forget(0)"
            + " help(2) innocent(1) keep(1) lives(0) mark(2) odds(2) quorum(1) ring(1) saw(2) self(2) state(2)"
            + " strikes(3) sure(1) takes(1) trace(0) trial(2) type(1) undo(0) verdict(2) who(1)";
    private static final String CONSTANTS = "BAD FULL NO NONE STATE";

    private static void same(String what, String got, String want) {
        if (!got.equals(want)) {
            System.out.println(what + ": " + got + ", due is " + want);
        }
        Check.due(what, got.equals(want) ? 1 : 0, 1);
    }

    private static boolean isOpen(Member member) {
        return !Modifier.isPrivate(member.getModifiers()) && !member.isSynthetic();
    }

    private static void methods() {
        TreeSet<String> open = new TreeSet<>();
        TreeSet<String> hidden = new TreeSet<>();
        for (Method method : LaterJury.class.getDeclaredMethods()) {
            if (isOpen(method)) {
                open.add(method.getName() + "(" + method.getParameterCount() + ")");
                Check.due(method.getName() + " is public", Modifier.isPublic(method.getModifiers()) ? 1 : 0, 1);
                Class<?> answer = method.getName().equals("trace") ? long.class : int.class;
                Check.due(method.getName() + " has its type", method.getReturnType() == answer ? 1 : 0, 1);
            } else {
                hidden.add(method.getName());
            }
        }
        same("methods", String.join(" ", open), FACE);
        for (Class<?> inside : LaterJury.class.getDeclaredClasses()) {
            Check.due(inside + " is static", Modifier.isStatic(inside.getModifiers()) ? 1 : 0, 1);
            for (Method method : inside.getDeclaredMethods()) {
                hidden.add(method.getName());
            }
        }
        for (String name : hidden) {
            Check.due(name + " bears no public method's name", (" " + FACE).contains(" " + name + "(") ? 1 : 0, 0);
        }
    }

    private static void fieldsAndConstructors() {
        TreeSet<String> open = new TreeSet<>();
        for (Field field : LaterJury.class.getDeclaredFields()) {
            if (isOpen(field)) {
                open.add(field.getName());
            }
        }
        same("constants", String.join(" ", open), CONSTANTS);
        Constructor<?>[] constructors = LaterJury.class.getDeclaredConstructors();
        Check.due("constructors", constructors.length, 1);
        Check.due("its parameters", constructors[0].getParameterCount(), 0);
        Check.due("the class is final", Modifier.isFinal(LaterJury.class.getModifiers()) ? 1 : 0, 1);
        Check.due("BAD", LaterJury.BAD, -1);
        Check.due("STATE", LaterJury.STATE, -2);
        Check.due("FULL", LaterJury.FULL, -3);
        Check.due("NONE", LaterJury.NONE, -9);
        Check.due("NO", LaterJury.NO, -1000000);
    }

    private static String withoutComments(String source) {
        return source.replaceAll("(?s)/\\*.*?\\*/", "").replaceAll("//[^\\n]*", "");
    }

    private static String file() throws IOException {
        return Files.readString(Path.of("src/main/java/LaterJury.java"));
    }

    private static void classesInside() {
        for (Class<?> one : LaterJury.class.getDeclaredClasses()) {
            Check.due(one + " is not seen from outside", one.getModifiers() & (Modifier.PUBLIC | Modifier.PROTECTED), 0);
        }
    }

    private static void source() throws IOException {
        String code = withoutComments(file());
        List<String> met = new ArrayList<>();
        Matcher banned = Pattern.compile("\\b(throw|throws|try|catch|synchronized|assert|import|package|var|yield"
                + "|float|double|hashCode|toString|Thread|System\\.(?!arraycopy)\\w+)\\b|->|::").matcher(code);
        while (banned.find()) {
            met.add(banned.group());
        }
        same("what LANGUAGE.md leaves out", String.join(" ", met), "");
    }

    public static void main(String[] args) throws IOException {
        methods();
        fieldsAndConstructors();
        classesInside();
        source();
        Check.end();
    }
}
