import java.io.IOException;
import java.lang.reflect.Field;
import java.lang.reflect.Method;
import java.lang.reflect.Modifier;
import java.nio.charset.StandardCharsets;
import java.nio.file.Files;
import java.nio.file.Path;
import java.util.Set;
import java.util.TreeSet;
import java.util.regex.Matcher;
import java.util.regex.Pattern;

/** The public face of the document, and the rules of LANGUAGE.md that can be seen from outside. */
public final class FaceTest {
    private static final String[] FACE = {"set(int, int)", "price(int, int, int)", "person()", "vouchers(int, int)",
        "order(int, int, int)", "callOff(int, int)", "cook()", "come(int)", "buy(int, int)", "close()", "of(int, int)",
        "ofDish(int, int)", "ordered(int, int)", "count(int)", "why(int, int, int)", "unsurest(int)",
        "firstOrder(int)", "wasted()", "put(long)", "wipe()", "fault()", "carryOut()", "undo()", "save(int)",
        "restore(int)"};
    private static final String CONSTANTS = "BAD_TEXT=-3 BAD_VALUE=-2 BAN=3 KEEP=1 NONE=-6 NOT_POSSIBLE=-5 NO_SUCH=-1 "
        + "SPARE=0 STRIKES=2 TOO_MANY=-4";
    private static final String[] FORBIDDEN = {"\\bimport\\b", "\\bpackage\\b", "\\bthrows?\\b", "\\btry\\b",
        "\\bcatch\\b", "\\bfinally\\b", "\\bsynchronized\\b", "\\bassert\\b", "\\bnative\\b", "\\bvolatile\\b", "->", "::",
        "\\bstatic\\s*\\{", "Exact\\b", "\\bthread\\b", "\\bequals\\b", "\\bhashCode\\b", "\\btoString\\b", "\\bjava\\.",
        "\\bSystem\\.(?!arraycopy)", "\\bvar\\b", "\\bwhile\\s*\\(true", "\\bfor\\s*\\(;;"};

    public static void main(String[] args) throws IOException {
        face();
        constants();
        nestedClasses();
        source(Files.readString(Path.of(System.getProperty("program")), StandardCharsets.UTF_8));
        Due.end();
    }

    private static String tell(Method method) {
        StringBuilder text = new StringBuilder(method.getName()).append('(');
        for (Class<?> type : method.getParameterTypes()) {
            text.append(text.charAt(text.length() - 1) == '(' ? "" : ", ").append(type.getName());
        }
        return text.append(')').toString();
    }

    private static void face() {
        Class<?> type = CanteenPlates.class;
        Due.is("public final", type.getModifiers(), Modifier.PUBLIC | Modifier.FINAL);
        Due.is("constructors", type.getDeclaredConstructors().length, 1);
        Due.is("public constructors without arguments", type.getConstructors()[0].getParameterCount(), 0);
        Set<String> found = new TreeSet<>();
        for (Method method : type.getDeclaredMethods()) {
            if (Modifier.isPrivate(method.getModifiers())) {
                continue;
            }
            found.add(tell(method));
            Due.is("public, of an object: " + method.getName(), method.getModifiers(), Modifier.PUBLIC);
            Due.same("answer of " + method.getName(), method.getReturnType().getName(), "int");
        }
        Due.same("methods", found.toString(), new TreeSet<>(Set.of(FACE)).toString());
    }

    private static void constants() {
        Set<String> found = new TreeSet<>();
        for (Field field : CanteenPlates.class.getDeclaredFields()) {
            if (!Modifier.isPrivate(field.getModifiers())) {
                found.add(field.getName());
                Due.is("public static final " + field.getName(), field.getModifiers(),
                    Modifier.PUBLIC | Modifier.STATIC | Modifier.FINAL);
                Due.same("type of " + field.getName(), field.getType().getName(), "int");
            }
        }
        StringBuilder names = new StringBuilder();
        for (String constant : CONSTANTS.split(" ")) {
            names.append(names.length() == 0 ? "[" : ", ").append(constant, 0, constant.indexOf('='));
        }
        Due.same("constants", found.toString(), names.append(']').toString());
        Due.same("their values", "BAD_TEXT=" + CanteenPlates.BAD_TEXT + " BAD_VALUE=" + CanteenPlates.BAD_VALUE + " BAN="
            + CanteenPlates.BAN + " KEEP=" + CanteenPlates.KEEP + " NONE=" + CanteenPlates.NONE + " NOT_POSSIBLE="
            + CanteenPlates.NOT_POSSIBLE + " NO_SUCH=" + CanteenPlates.NO_SUCH + " SPARE=" + CanteenPlates.SPARE
            + " STRIKES=" + CanteenPlates.STRIKES + " TOO_MANY=" + CanteenPlates.TOO_MANY, CONSTANTS);
    }

    private static void nestedClasses() {
        Set<String> names = new TreeSet<>();
        for (String method : FACE) {
            names.add(method.substring(0, method.indexOf('(')));
        }
        Due.is("twenty fields at most", fieldsOf(CanteenPlates.class) <= 20 ? 1 : 0, 1);
        Class<?>[] nested = CanteenPlates.class.getDeclaredClasses();
        Due.is("twelve classes at most", Math.min(nested.length, 11), nested.length);
        for (Class<?> type : nested) {
            Due.is("static " + type, type.getModifiers() & Modifier.STATIC, Modifier.STATIC);
            Due.is("not public " + type, type.getModifiers() & (Modifier.PUBLIC | Modifier.PROTECTED), 0);
            for (Method method : type.getDeclaredMethods()) {
                Due.is(type + "'s " + method + " has a name of the face", names.contains(method.getName()) ? 1 : 0, 0);
                Due.is("parameters of " + method, method.getParameterCount() <= 7 ? 1 : 0, 1);
            }
            Due.is("twenty fields at most in " + type, fieldsOf(type) <= 20 ? 1 : 0, 1);
            for (Field field : type.getDeclaredFields()) {
                boolean goodStatic = !Modifier.isStatic(field.getModifiers()) || Modifier.isFinal(field.getModifiers());
                Due.is("static fields are final: " + field, goodStatic ? 1 : 0, 1);
            }
        }
    }

    /** How many fields there are beside the constants. */
    private static int fieldsOf(Class<?> type) {
        int many = 0;
        for (Field field : type.getDeclaredFields()) {
            many += Modifier.isStatic(field.getModifiers()) ? 0 : 1;
        }
        return many;
    }

    private static void source(String program) {
        String code = program.replaceAll("(?s)/\\*.*?\\*/", "").replaceAll("//[^\n]*", "");
        for (String forbidden : FORBIDDEN) {
            Matcher matcher = Pattern.compile(forbidden).matcher(code);
            Due.same("LANGUAGE.md: " + forbidden, matcher.find() ? matcher.group() : "nothing", "nothing");
        }
        for (int place = 0; place < program.length(); place++) {
            if (program.charAt(place) > 126) {
                Due.is("a sign of the program", program.charAt(place), 126);
            }
        }
        methodLengths(program.split("\n"));
        objectsMade(code.split("\n"));
    }

    /** Rows are made with an object's fields and in constructors alone, so that no call makes any. */
    private static void objectsMade(String[] lines) {
        boolean inMethod = false;
        int made = 0;
        for (String line : lines) {
            if (line.matches("( {4}| {8})\\w.*\\) \\{")) {
                inMethod = !line.matches("( {4}| {8})(public )?[A-Z]\\w*\\(.*");
            } else if (line.matches("( {4}| {8})\\}")) {
                inMethod = false;
            }
            if (line.matches(".*(\\bnew\\b|\\bclone\\b|\\bcopyOf|\\bsubstring\\b|\\btoCharArray\\b|List\\b|\").*")) {
                made++;
                Due.same("made in a method: " + line, inMethod ? "yes" : "no", "no");
            }
        }
        Due.is("some are made", Math.min(made, 1), 1);
    }

    /** A method begins and ends at an indent of four or, inside a class, of eight. */
    private static void methodLengths(String[] lines) {
        int start = -1;
        for (int line = 0; line < lines.length; line++) {
            if (lines[line].matches("( {4}| {8})\\w.*\\) \\{")) {
                start = line;
            } else if (lines[line].matches("( {4}| {8})\\}") && start >= 0) {
                Due.is("sixty lines at most from line " + (start + 1), line - start < 60 ? 1 : 0, 1);
                start = -1;
            }
        }
    }
}
