import java.lang.reflect.Constructor;
import java.lang.reflect.Field;
import java.lang.reflect.Method;
import java.lang.reflect.Modifier;
import java.nio.file.Files;
import java.nio.file.Path;
import java.util.Arrays;
import java.util.List;
import java.util.TreeSet;
import java.util.regex.Matcher;
import java.util.regex.Pattern;

/** The class has the face of the document and no more, and its source keeps to LANGUAGE.md. */
public final class FaceTest {
    static final List<String> METHODS = List.of("begin 1", "write 3", "lose 1", "mend 1", "swap 2", "lay 1",
        "days 1", "set 2", "cell 3", "margin 3", "row 2", "at 1", "would 2", "order 1", "comes 0", "safeFor 0",
        "mean 0", "share 0", "count 1", "undo 0", "type 1", "clearText 0", "fault 1", "play 0");
    static final List<String> CONSTANTS = List.of("INVALID_ARGUMENT -1000001", "NOT_POSSIBLE -1000002",
        "LIMIT_REACHED -1000003", "NOT_FOUND -1000004");
    static final Pattern RULED_OUT = Pattern.compile("->|::|\\b(import|package|catch|throw|synchronized|assert|lambda"
        + "|finally|Float|Double|Object|System\\.(?!arraycopy)\\w+|toString|hashCode|equals|\\w+Exact)\\b|Math\\.random");

    static int wrong = 0;

    static void check(String what, boolean holds) {
        if (!holds) {
            wrong++;
            System.out.println("does not hold: " + what);
        }
    }

    static void face() throws Exception {
        check("public and final", Modifier.isPublic(EchoMargins.class.getModifiers())
            && Modifier.isFinal(EchoMargins.class.getModifiers()));
        TreeSet<String> methods = new TreeSet<>();
        for (Method method : EchoMargins.class.getDeclaredMethods()) {
            if (!Modifier.isPrivate(method.getModifiers())) {
                methods.add(method.getName() + " " + method.getParameterCount());
                check(method + " is public", Modifier.isPublic(method.getModifiers()));
                check(method + " answers an int", method.getReturnType() == int.class);
                check(method + " takes ints",
                    Arrays.stream(method.getParameterTypes()).allMatch(type -> type == int.class));
            }
        }
        check("the methods " + methods, methods.equals(new TreeSet<>(METHODS)));
        TreeSet<String> constants = new TreeSet<>();
        for (Field field : EchoMargins.class.getDeclaredFields()) {
            if (!Modifier.isPrivate(field.getModifiers())) {
                constants.add(field.getName() + " " + field.getInt(null));
                check(field + " is a constant", Modifier.toString(field.getModifiers()).equals("public static final"));
            }
        }
        check("the constants " + constants, constants.equals(new TreeSet<>(CONSTANTS)));
        Constructor<?>[] constructors = EchoMargins.class.getDeclaredConstructors();
        check("one constructor without arguments", constructors.length == 1
            && constructors[0].getParameterCount() == 0 && Modifier.isPublic(constructors[0].getModifiers()));
    }

    static void inside() {
        Class<?>[] classes = EchoMargins.class.getDeclaredClasses();
        check("at most twelve classes", classes.length <= 12);
        for (Class<?> inner : classes) {
            check(inner + " is static, and not public", Modifier.isStatic(inner.getModifiers())
                && !Modifier.isPublic(inner.getModifiers()) && !Modifier.isProtected(inner.getModifiers()));
            for (Field field : inner.getDeclaredFields()) {
                check(field + " is no static state", !Modifier.isStatic(field.getModifiers())
                    || Modifier.isFinal(field.getModifiers()));
            }
        }
    }

    static void source() throws Exception {
        String source = Files.readString(Path.of("src/main/java/EchoMargins.java"));
        String code = source.replaceAll("(?s)/\\*.*?\\*/", "").replaceAll("//[^\n]*", "");
        Matcher matcher = RULED_OUT.matcher(code);
        while (matcher.find()) {
            check("nothing is used that LANGUAGE.md rules out: " + matcher.group(), false);
        }
        check("all signs are 1 to 127", source.chars().allMatch(sign -> sign > 0 && sign < 128));
    }

    /** No call may throw, whatever its arguments are, in states that few runs reach, too. */
    static void wildArguments() {
        int[] wild = {Integer.MIN_VALUE, -1000, -1, 0, 1, 2, 3, 5, 8, 9, 16, 59, 60, 99, 1000, 100000000, Integer.MAX_VALUE};
        EchoMargins x = new EchoMargins();
        for (int one : wild) {
            for (int other : wild) {
                for (int third : wild) {
                    x.write(one, other, third);
                    x.cell(one, other, third);
                    x.margin(one, other, third);
                }
                x.swap(one, other);
                x.set(one, other);
                x.row(one, other);
                x.would(one, other);
                x.order(one);
                x.comes();
                x.count(other);
                x.type(other);
                x.fault(one);
                x.play();
            }
            x.lose(one);
            x.mend(one);
            x.lay(one);
            x.days(one);
            x.at(one);
            x.begin(one);
            x.safeFor();
            x.mean();
            x.share();
            x.undo();
        }
    }

    public static void main(String[] args) throws Exception {
        face();
        inside();
        source();
        wildArguments();
        System.out.println(wrong == 0 ? "the face is the document's" : wrong + " checks do not hold");
        if (wrong != 0) {
            System.exit(1);
        }
    }
}
