import java.io.IOException;
import java.lang.reflect.Constructor;
import java.lang.reflect.Field;
import java.lang.reflect.Member;
import java.lang.reflect.Method;
import java.lang.reflect.Modifier;
import java.nio.file.Files;
import java.nio.file.Path;
import java.util.Arrays;
import java.util.List;
import java.util.Set;
import java.util.TreeSet;
import java.util.regex.Matcher;
import java.util.regex.Pattern;

/** The public face, and those rules of LANGUAGE.md that can be seen from the class and from its text. */
public final class FaceTest {
    private static final String I = "IndexOutOfBoundsException";
    private static final String A = "IllegalArgumentException";
    private static final String S = "IllegalStateException";

    private static final String[] FACE = {
        "int page(int, int, int, int, int, int) " + A + " " + S, "int update(int) " + I,
        "int rules(int, int, int, int, int) " + I + " " + A, "boolean down(boolean)",
        "int place(int, int, int, boolean) " + I + " " + A + " " + S, "boolean cut(int, boolean) " + I,
        "int ask(int, int, int, int, int, int) " + I + " " + A + " " + S, "int purge(int, boolean) " + I + " " + S,
        "int purgeMark(int, boolean) " + I + " " + S, "int pass(int) " + A + " " + S, "int second()",
        "int answer(int, int) " + I + " " + A, "int copies(int) " + I, "int held(int) " + I,
        "int copy(int, int, int, int, int) " + I + " " + A, "int varies(int, int) " + I, "int served(int) " + I,
        "int fetched(int) " + I, "int fetches()", "int onWay(int) " + I, "int origin()", "boolean isDone(int) " + I};

    private static final Set<String> CONSTANTS = Set.of("NONE", "BY_LANGUAGE", "BY_KIND", "PRIVATE", "WAITING",
            "ANSWERED", "FAILED", "FRESH", "STALE", "FETCHED");

    private static final String[] NOT_IN_THE_TEXT = {
        "\\bpackage\\b", "\\bimport\\b", "\\btry\\b", "\\bcatch\\b", "\\bfinally\\b", "\\bsynchronized\\b", "\\bassert\\b",
        "\\bvolatile\\b", "->", "::", "Exact\\s*\\(", "\\bequals\\s*\\(", "\\bhashCode\\b", "\\btoString\\b", "\\bMath\\.random",
        "\\bThread\\b", "\\bObject\\b", "currentTimeMillis", "nanoTime", "\\bstatic\\s*\\{", "\\bprotected\\b", "[/%]"};

    private static String signature(Method method) {
        StringBuilder text = new StringBuilder(method.getReturnType().getSimpleName() + " " + method.getName() + "(");
        Class<?>[] types = method.getParameterTypes();
        for (int i = 0; i < types.length; i++) {
            text.append(i == 0 ? "" : ", ").append(types[i].getSimpleName());
        }
        text.append(")");
        for (Class<?> thrown : method.getExceptionTypes()) {
            text.append(" ").append(thrown.getSimpleName());
        }
        return text.toString();
    }

    private static void face() {
        Class<?> x = EdgeOrchard.class;
        Check.due("the class is public", Modifier.isPublic(x.getModifiers()), true);
        Check.due("the class is final", Modifier.isFinal(x.getModifiers()), true);
        Set<String> methods = new TreeSet<>();
        Set<String> names = new TreeSet<>();
        for (Method method : x.getDeclaredMethods()) {
            if (Modifier.isPublic(method.getModifiers())) {
                methods.add(signature(method));
                names.add(method.getName());
            }
        }
        Check.same("public methods", methods.toString(), new TreeSet<>(List.of(FACE)).toString());
        for (Constructor<?> made : x.getDeclaredConstructors()) {
            Check.same("constructor", Modifier.toString(made.getModifiers()) + made.getParameterCount(), "public0");
        }
        Set<String> constants = new TreeSet<>();
        for (Field field : x.getDeclaredFields()) {
            boolean isPublic = Modifier.isPublic(field.getModifiers());
            if (isPublic) {
                constants.add(field.getName());
                Check.same(field.getName(), Modifier.toString(field.getModifiers()) + field.getType(), "public static finalint");
            }
            hiddenDue(field, isPublic);
        }
        Check.same("constants", constants.toString(), new TreeSet<>(CONSTANTS).toString());
        for (Method method : x.getDeclaredMethods()) {
            boolean isPublic = Modifier.isPublic(method.getModifiers());
            hiddenDue(method, isPublic);
            Check.due("a hidden method has a public name: " + method, !isPublic && names.contains(method.getName()), false);
        }
    }

    private static void hiddenDue(Member member, boolean isFace) {
        boolean isHidden = Modifier.isPrivate(member.getModifiers()) || member.isSynthetic();
        Check.due("only the face is to be seen: " + member, isFace || isHidden, true);
    }

    private static void classes() {
        List<Class<?>> inside = Arrays.asList(EdgeOrchard.class.getDeclaredClasses());
        Check.due("at most twelve classes", inside.size() <= 11, true);
        for (Class<?> one : inside) {
            Check.due(one + " is static", Modifier.isStatic(one.getModifiers()), true);
            Check.due(one + " is not public", Modifier.isPublic(one.getModifiers()), false);
            Check.due(one + " is not protected", Modifier.isProtected(one.getModifiers()), false);
            sizesDue(one);
        }
        sizesDue(EdgeOrchard.class);
    }

    private static void sizesDue(Class<?> one) {
        int fields = 0;
        for (Field field : one.getDeclaredFields()) {
            boolean isStatic = Modifier.isStatic(field.getModifiers());
            fields += isStatic ? 0 : 1;
            Check.due(field + " static is final", !isStatic || Modifier.isFinal(field.getModifiers()), true);
        }
        Check.due("fields of " + one + " are at most twenty", fields <= 20, true);
        for (Method method : one.getDeclaredMethods()) {
            Check.due(method + " takes at most seven", method.getParameterCount() <= 7, true);
        }
    }

    /** Comments and written texts are not looked at. */
    private static void text(String file) throws IOException {
        String text = Files.readString(Path.of(file));
        String code = text.replaceAll("(?s)/\\*.*?\\*/", " ").replaceAll("//[^\n]*", " ").replaceAll("\"[^\"\n]*\"", "\"\"");
        for (String unwanted : NOT_IN_THE_TEXT) {
            Matcher found = Pattern.compile(unwanted).matcher(code);
            Check.same(unwanted + " in the text", found.find() ? found.group() : "", "");
        }
        Check.due("the text is ASCII", text.chars().allMatch(sign -> sign < 128), true);
        int length = 0;
        for (String line : text.split("\n")) {
            length = line.matches("    (    )?\\S.*\\{") ? 0 : length + 1;
            boolean isEnd = line.equals("    }") || line.equals("        }");
            Check.due("lines of a method that ends at: " + line, !isEnd || length < 60, true);
            Check.due("a line of at most 120 signs: " + line, line.length() <= 120, true);
        }
    }

    public static void main(String[] args) throws IOException {
        face();
        classes();
        text(args.length > 0 ? args[0] : "src/main/java/EdgeOrchard.java");
        Check.end("FaceTest");
    }
}
