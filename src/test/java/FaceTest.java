import java.io.IOException;
import java.lang.reflect.Constructor;
import java.lang.reflect.Field;
import java.lang.reflect.Member;
import java.lang.reflect.Method;
import java.lang.reflect.Modifier;
import java.nio.file.Files;
import java.nio.file.Path;
import java.util.Arrays;
import java.util.Set;
import java.util.TreeSet;
import java.util.regex.Matcher;
import java.util.regex.Pattern;

/** The face as the document has it, and those rules of the language that can be looked up in the class or its text. */
public final class FaceTest {
    private static final String[] METHODS = {
        "int system(int) throws IllegalArgumentException, IllegalStateException",
        "int set(int, int, int, int, int) throws IndexOutOfBoundsException, IllegalArgumentException",
        "int join(int, int, boolean) throws IndexOutOfBoundsException, IllegalStateException",
        "int loop(int, int) throws IndexOutOfBoundsException, IllegalArgumentException, IllegalStateException",
        "int pole(int) throws IllegalArgumentException, IllegalStateException",
        "int input(int) throws IllegalArgumentException, IllegalStateException",
        "int clear()",
        "int placed(int) throws IndexOutOfBoundsException, IllegalStateException",
        "int joined(int) throws IndexOutOfBoundsException, IllegalStateException",
        "int at(int, int, int, int) throws IndexOutOfBoundsException",
        "int order(int) throws IndexOutOfBoundsException",
        "int polynomial(int, int, boolean) throws IndexOutOfBoundsException",
        "int rank(int, boolean) throws IndexOutOfBoundsException",
        "int number(int, int) throws IndexOutOfBoundsException, IllegalArgumentException",
        "int output(int, int) throws IndexOutOfBoundsException, IllegalArgumentException",
        "int outputAnew(int, int) throws IndexOutOfBoundsException, IllegalArgumentException",
        "int gain(int, int) throws IndexOutOfBoundsException, IllegalStateException",
        "int gainAnew(int, int) throws IndexOutOfBoundsException, IllegalStateException",
        "int observer(int, int) throws IndexOutOfBoundsException, IllegalStateException",
        "int cost(int, int, int, int) throws IndexOutOfBoundsException, IllegalArgumentException,"
            + " IllegalStateException",
        "int costAnew(int, int, int, int) throws IndexOutOfBoundsException, IllegalArgumentException,"
            + " IllegalStateException",
        "int least(int) throws IndexOutOfBoundsException",
        "int leastAnew(int) throws IndexOutOfBoundsException",
    };

    /** Words that the language leaves out, or that this program has no need of. */
    private static final String[] LEFT_OUT = {
        "import", "package", "try", "catch", "finally", "synchronized", "assert", "instanceof", "null",
        "Exact", "System", "Math", "Object", "equals", "hashCode", "toString", "->", "::", "protected",
    };

    private static final Check CHECK = new Check();

    private FaceTest() {
    }

    public static void main(String[] args) throws IOException {
        members();
        nested();
        CHECK.holds("the source and the document are told", args.length == 2);
        String text = Files.readString(Path.of(args[0]));
        source(text);
        asTheDocumentHasIt(Files.readString(Path.of(args[1])), text.replaceAll("\\s+", " "));
        CHECK.end("FaceTest");
    }

    private static String told(Method method) {
        StringBuilder text = new StringBuilder(method.getReturnType() + " " + method.getName() + "(");
        String between = "";
        for (Class<?> type : method.getParameterTypes()) {
            text.append(between).append(type);
            between = ", ";
        }
        text.append(')');
        between = " throws ";
        for (Class<?> type : method.getExceptionTypes()) {
            text.append(between).append(type.getSimpleName());
            between = ", ";
        }
        return text.toString();
    }

    private static void members() {
        Set<String> due = new TreeSet<>(Arrays.asList(METHODS));
        Set<String> got = new TreeSet<>();
        Set<String> publicNames = new TreeSet<>();
        for (Method method : PoleShop.class.getDeclaredMethods()) {
            if (Modifier.isPublic(method.getModifiers())) {
                got.add(told(method));
                publicNames.add(method.getName());
            }
        }
        CHECK.same("public methods", due.toString(), got.toString());
        for (Method method : PoleShop.class.getDeclaredMethods()) {
            if (!Modifier.isPublic(method.getModifiers())) {
                CHECK.holds("rule 1: private " + method, Modifier.isPrivate(method.getModifiers()));
                CHECK.holds("rule 1: a name of its own " + method, !publicNames.contains(method.getName()));
            }
        }
        for (Constructor<?> constructor : PoleShop.class.getDeclaredConstructors()) {
            CHECK.holds("public " + constructor,
                    Modifier.isPublic(constructor.getModifiers()) && constructor.getParameterCount() == 0);
        }
        int fields = 0;
        Set<String> publicFields = new TreeSet<>();
        for (Field field : PoleShop.class.getDeclaredFields()) {
            if (Modifier.isPublic(field.getModifiers())) {
                publicFields.add(field.getName());
            } else {
                CHECK.holds("rule 1: private " + field, Modifier.isPrivate(field.getModifiers()));
            }
            fields += staticIsFinal(field) ? 0 : 1;
        }
        CHECK.same("public fields", "[COLUMN, MODULUS, ROW, SQUARE, THROUGH]", publicFields.toString());
        CHECK.holds("rule 11: " + fields + " fields", fields <= 20);
        CHECK.same("class", "public final", Modifier.toString(PoleShop.class.getModifiers()));
    }

    /** Whether it is static; if so, it is final, too. */
    private static boolean staticIsFinal(Member field) {
        boolean isStatic = Modifier.isStatic(field.getModifiers());
        if (isStatic) {
            CHECK.holds("rule 5: final " + field, Modifier.isFinal(field.getModifiers()));
        }
        return isStatic;
    }

    private static void nested() {
        Class<?>[] classes = PoleShop.class.getDeclaredClasses();
        CHECK.holds("rule 11: " + classes.length + " classes inside", classes.length <= 11);
        for (Class<?> inside : classes) {
            int modifiers = inside.getModifiers();
            CHECK.holds("rule 1: " + inside, Modifier.isStatic(modifiers) && Modifier.isPrivate(modifiers));
            for (Field field : inside.getDeclaredFields()) {
                staticIsFinal(field);
            }
            for (Method method : inside.getDeclaredMethods()) {
                CHECK.holds("rule 11: " + method, method.getParameterCount() <= 7);
            }
        }
    }

    /** Line by line, with the names of the parameters and the values of the constants. */
    private static void asTheDocumentHasIt(String document, String flat) {
        int lines = 0;
        Matcher line = Pattern.compile("(?m)^    (public [^\n]*);$").matcher(document);
        while (line.find()) {
            String due = line.group(1) + (line.group(1).contains("(") ? " {" : ";");
            CHECK.holds("as the document has it: " + due, flat.contains(due));
            lines++;
        }
        CHECK.same("lines of the face", Integer.toString(METHODS.length + 3), Integer.toString(lines));
    }

    private static void source(String text) {
        CHECK.holds("signs are 1 to 127", text.chars().allMatch(sign -> sign >= 1 && sign <= 127));
        String code = text.replaceAll("(?s)/\\*.*?\\*/", " ").replaceAll("//[^\n]*", " ")
                .replaceAll("\"[^\"\n]*\"", "\"\"");
        for (String word : LEFT_OUT) {
            String pattern = Character.isLetter(word.charAt(0)) ? "\\b" + word + "\\b" : Pattern.quote(word);
            CHECK.holds("without " + word, !Pattern.compile(pattern).matcher(code).find());
        }
        Matcher thrown = Pattern.compile("throw (.*)").matcher(code);
        while (thrown.find()) {
            CHECK.holds(thrown.group(), thrown.group(1).matches(
                    "new (IllegalArgument|IllegalState|IndexOutOfBounds)Exception\\(\"\"\\);"));
        }
        Matcher divided = Pattern.compile("[/%]\\s*(\\w+)").matcher(code);
        while (divided.find()) {
            CHECK.same("rule 7: the divisor is never 0", "MODULUS", divided.group(1));
        }
        Matcher made = Pattern.compile("new (\\w+)").matcher(code);
        Set<String> kinds = new TreeSet<>();
        while (made.find()) {
            kinds.add(made.group(1));
        }
        CHECK.same("what is made", "[Answers, Equations, IllegalArgumentException, IllegalStateException,"
                + " IndexOutOfBoundsException, Placing, Plant, Polynomials, StepsBack, Typed, int]", kinds.toString());
    }
}
