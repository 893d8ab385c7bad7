import java.io.IOException;
import java.lang.reflect.Constructor;
import java.lang.reflect.Field;
import java.lang.reflect.Method;
import java.lang.reflect.Modifier;
import java.nio.file.Files;
import java.nio.file.Path;
import java.util.Arrays;
import java.util.Set;
import java.util.TreeSet;
import java.util.regex.Matcher;
import java.util.regex.Pattern;

/** The public face of the class, word for word, and those rules of LANGUAGE.md that a reader of the file can see. */
public final class FaceTests {
    private static final String SOURCE = "src/main/java/LostDigits.java";
    private static final String[] METHODS = {
        "int set(int, int)", "long round(int, int, int)", "int say(int)", "int wipe()", "int fault()", "int text()",
        "int sign(int)", "int put(int, int, int)", "long worked(int, int)", "long exact(int)", "long loss()",
        "int worst()", "int needs(long)", "int term(long)", "int clear()", "long about(int)", "long sum(int)",
        "long orders(int)", "int order(int, int)", "long bounds(int)", "long truth(int)", "int fits(int, int)",
        "int change(int, int)", "long better(int)", "int betterSign(int, int)", "int image(int)", "int restore(int)",
        "int told(int)"
    };
    private static final String[] CONSTANTS = {
        "int UNKNOWN = -1", "int OUTSIDE = -2", "int STATE = -3", "int FULL = -4", "int NO = -5", "int NONE = -6",
        "long LOST = -1000000000000000000", "long GREAT = 1000000000000000000"
    };
    private static final String[] FORBIDDEN = {
        "\\bthrow\\b", "\\bthrows\\b", "\\btry\\b", "\\bcatch\\b", "\\bsynchronized\\b", "\\bassert\\b", "->", "::",
        "\\bimport\\b", "\\bpackage\\b", "Exact\\(", "\\bdouble\\b", "\\bfloat\\b", "@", "\"", "\\bObject\\b",
        "\\bSystem\\.(?!arraycopy)", "\\bprotected\\b", "\\bthis\\b", "\\bvar\\b"
    };

    private static int wrong = 0;

    public static void main(String[] args) throws Exception {
        checkFace();
        checkNested();
        checkSource();
        System.out.println("the face and the language: " + wrong + " wrong");
        if (wrong != 0) {
            System.exit(1);
        }
    }

    private static void check(boolean isRight, String what) {
        if (!isRight) {
            wrong++;
            System.out.println(what);
        }
    }

    private static String types(Class<?>[] types) {
        StringBuilder all = new StringBuilder();
        for (Class<?> type : types) {
            all.append(all.length() == 0 ? "" : ", ").append(type.getSimpleName());
        }
        return all.toString();
    }

    private static void checkFace() throws Exception {
        Class<?> face = LostDigits.class;
        check(Modifier.isPublic(face.getModifiers()) && Modifier.isFinal(face.getModifiers()), "not public and final");
        Set<String> methods = new TreeSet<>();
        Set<String> names = new TreeSet<>();
        for (Method m : face.getDeclaredMethods()) {
            if (!Modifier.isPrivate(m.getModifiers())) {
                check(Modifier.isPublic(m.getModifiers()) && !Modifier.isStatic(m.getModifiers()), "member " + m);
                methods.add(m.getReturnType() + " " + m.getName() + "(" + types(m.getParameterTypes()) + ")");
                names.add(m.getName());
            }
        }
        check(methods.equals(new TreeSet<>(Arrays.asList(METHODS))), "the methods are " + methods);
        for (Method m : face.getDeclaredMethods()) {
            check(!Modifier.isPrivate(m.getModifiers()) || !names.contains(m.getName()), "named as a public one: " + m);
        }
        Constructor<?>[] makers = face.getDeclaredConstructors();
        check(makers.length == 1 && Modifier.isPublic(makers[0].getModifiers())
            && makers[0].getParameterCount() == 0, "the constructor");
        Set<String> constants = new TreeSet<>();
        for (Field f : face.getDeclaredFields()) {
            if (!Modifier.isPrivate(f.getModifiers())) {
                constants.add(f.getType() + " " + f.getName() + " = " + f.get(null));
                check(Modifier.toString(f.getModifiers()).equals("public static final"), "constant " + f);
            }
            check(!Modifier.isStatic(f.getModifiers()) || Modifier.isFinal(f.getModifiers()), "static state " + f);
        }
        check(constants.equals(new TreeSet<>(Arrays.asList(CONSTANTS))), "the constants are " + constants);
    }

    private static void checkNested() {
        Class<?>[] nested = LostDigits.class.getDeclaredClasses();
        check(nested.length <= 12, "too many classes: " + nested.length);
        for (Class<?> c : nested) {
            check(Modifier.isStatic(c.getModifiers()), "not static: " + c);
            check(!Modifier.isPublic(c.getModifiers()) && !Modifier.isProtected(c.getModifiers()), "open: " + c);
            check(c.getDeclaredFields().length <= 20, "too many fields: " + c);
            for (Field f : c.getDeclaredFields()) {
                check(!Modifier.isStatic(f.getModifiers()) || Modifier.isFinal(f.getModifiers()), "static state " + f);
            }
            for (Method m : c.getDeclaredMethods()) {
                check(m.getParameterCount() <= 7, "too many parameters: " + m);
            }
        }
    }

    private static void checkSource() throws IOException {
        String source = Files.readString(Path.of(SOURCE));
        String code = Pattern.compile("/\\*.*?\\*/|//[^\n]*", Pattern.DOTALL).matcher(source).replaceAll("");
        for (String word : FORBIDDEN) {
            Matcher found = Pattern.compile(word).matcher(code);
            check(!found.find(), "the file has what LANGUAGE.md rules out: " + word);
        }
        for (int i = 0; i < source.length(); i++) {
            check(source.charAt(i) < 128, "a sign beyond 127 at " + i);
        }
        checkMethodLengths(source);
        checkMaking(code);
    }

    private static void checkMethodLengths(String source) {
        String[] lines = source.split("\n");
        for (int i = 0; i < lines.length; i++) {
            Matcher head = Pattern.compile("^( {4}| {8})(?! ).*\\) \\{$").matcher(lines[i]);
            if (head.find()) {
                int end = i;
                while (end < lines.length && !lines[end].equals(head.group(1) + "}")) {
                    end++;
                }
                check(end - i < 60, "a method of " + (end - i + 1) + " lines: " + lines[i].trim());
            }
        }
    }

    /** Objects are made when an object is made, never by a call: only field initialisers and the constructor. */
    private static void checkMaking(String code) {
        for (String line : code.split("\n")) {
            if (line.contains("new ")) {
                check(line.matches(" +(final [\\w\\[\\]]+ )?\\w+ = new .*;"), "made in a call: " + line.trim());
            }
        }
    }
}
