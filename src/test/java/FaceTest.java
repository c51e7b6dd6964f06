import java.lang.reflect.Constructor;
import java.lang.reflect.Field;
import java.lang.reflect.Method;
import java.lang.reflect.Modifier;
import java.nio.file.Files;
import java.nio.file.Path;
import java.util.ArrayList;
import java.util.Arrays;
import java.util.List;
import java.util.TreeSet;
import java.util.regex.Matcher;
import java.util.regex.Pattern;

/** The class has the face of the document and no more, and its source keeps to LANGUAGE.md. */
public final class FaceTest {
    static final List<String> METHODS = List.of("begin 1", "write 3", "lose 1", "mend 1", "swap 2", "lay 1",
        "days 1", "set 2", "cell 3", "margin 3", "row 2", "at 1", "would 2", "order 1", "comes 0", "safeFor 0",
        "mean 0", "share 0", "count 1", "undo 0", "type 1", "clearText 0", "fault 1", "play 0");
    static final List<String> CONSTANTS = List.of("INVALID_ARGUMENT -1000001", "NOT_POSSIBLE -1000002",
        "LIMIT_REACHED -1000003", "NOT_FOUND -1000004");
    static final Path SOURCE = Path.of("src/main/java/EchoMargins.java");
    static final Path DOCUMENT = Path.of("../shared/DOC.md");
    static final Pattern RULED_OUT = Pattern.compile("->|::|\\b(import|package|catch|throw|synchronized|assert|lambda"
        + "|finally|Float|Double|Object|System\\.(?!arraycopy)\\w+|toString|hashCode|equals|\\w+Exact)\\b|Math\\.random");

    static int wrong = 0;

    static void check(String what, boolean holds) {
        if (!holds) {
            wrong++;
            System.out.println("does not hold: " + what);
        }
    }

    static void face() throws Exception {
        check("public and final", Modifier.isPublic(EchoMargins.class.getModifiers())
            && Modifier.isFinal(EchoMargins.class.getModifiers()));
        TreeSet<String> methods = new TreeSet<>();
        for (Method method : EchoMargins.class.getDeclaredMethods()) {
            if (!Modifier.isPrivate(method.getModifiers())) {
                methods.add(method.getName() + " " + method.getParameterCount());
                check(method + " is public", Modifier.isPublic(method.getModifiers()));
                check(method + " answers an int", method.getReturnType() == int.class);
                check(method + " takes ints",
                    Arrays.stream(method.getParameterTypes()).allMatch(type -> type == int.class));
            }
        }
        check("the methods " + methods, methods.equals(new TreeSet<>(METHODS)));
        TreeSet<String> constants = new TreeSet<>();
        for (Field field : EchoMargins.class.getDeclaredFields()) {
            if (!Modifier.isPrivate(field.getModifiers())) {
                constants.add(field.getName() + " " + field.getInt(null));
                check(field + " is a constant", Modifier.toString(field.getModifiers()).equals("public static final"));
            }
        }
        check("the constants " + constants, constants.equals(new TreeSet<>(CONSTANTS)));
        Constructor<?>[] constructors = EchoMargins.class.getDeclaredConstructors();
        check("one constructor without arguments", constructors.length == 1
            && constructors[0].getParameterCount() == 0 && Modifier.isPublic(constructors[0].getModifiers()));
    }

    static void inside() {
        Class<?>[] classes = EchoMargins.class.getDeclaredClasses();
        check("at most twelve classes", classes.length <= 12);
        for (Class<?> inner : classes) {
            check(inner + " is static, and not public", Modifier.isStatic(inner.getModifiers())
                && !Modifier.isPublic(inner.getModifiers()) && !Modifier.isProtected(inner.getModifiers()));
            for (Field field : inner.getDeclaredFields()) {
                check(field + " is no static state", !Modifier.isStatic(field.getModifiers())
                    || Modifier.isFinal(field.getModifiers()));
            }
        }
    }

    /** The face stands in the source line by line, in the order that the document has. */
    static void faceOfTheDocument() throws Exception {
        String source = Files.readString(SOURCE);
        Matcher block = Pattern.compile("(?s)## The public face\\s+```java\n(.*?)```").matcher(Files.readString(DOCUMENT));
        check("the document tells the face", block.find());
        int at = 0;
        int lines = 0;
        for (String line : block.group(1).split("\n")) {
            String told = line.trim();
            if (!told.startsWith("public")) {
                continue;
            }
            String written = told.contains("(") ? told.replace(";", " {") : told;
            int found = source.indexOf(written, at);
            check("the source has, in its order: " + written, found >= 0);
            at = Math.max(at, found);
            lines++;
        }
        check("the document's face has all lines, but has " + lines, lines == 1 + CONSTANTS.size() + 1 + METHODS.size());
    }

    /** "Ahead of the calls .. the interface says: ---- ..": nothing else of the face stands between. */
    static void headings() throws Exception {
        Matcher heading = Pattern.compile("Ahead of the calls (.*?) the interface says: (---- .*?)\\.\n")
            .matcher(Files.readString(DOCUMENT) + "\n");
        List<String> told = new ArrayList<>();
        while (heading.find()) {
            told.add(heading.group(2));
            for (String call : heading.group(1).replaceAll("[` ]", "").split(",")) {
                told.add(call);
            }
        }
        Matcher line = Pattern.compile("(?m)^    // (---- .*)$|^    public int (\\w+)\\(").matcher(Files.readString(SOURCE));
        List<String> written = new ArrayList<>();
        while (line.find()) {
            written.add(line.group(1) == null ? line.group(2) : line.group(1));
        }
        check("the headings and calls " + written + ", due is " + told, written.equals(told));
        check("four headings ahead of all calls", told.size() == 4 + METHODS.size());
    }

    /** Rules 4, 10 and 11, as far as lines tell: texts are not joined, methods take few parameters and are short. */
    static void shape() throws Exception {
        String[] lines = Files.readString(SOURCE).split("\n");
        int start = -1;
        for (int i = 0; i < lines.length; i++) {
            check("no text is joined: " + lines[i], !lines[i].matches(".*(\" *\\+|\\+ *\").*"));
            if (lines[i].matches("    (    )?(public|private|static|final|int|void|boolean|[A-Z]\\w*).*\\) \\{")) {
                start = i;
            }
            if (start >= 0 && lines[i].matches("    (    )?\\}")) {
                check("short: " + lines[start], i - start <= 60);
                start = -1;
            }
        }
        for (Class<?> type : allClasses()) {
            for (Method method : type.getDeclaredMethods()) {
                check(method + " takes at most seven", method.getParameterCount() <= 7);
                check(method + " takes no other name from the face", type == EchoMargins.class
                    || METHODS.stream().noneMatch(face -> face.startsWith(method.getName() + " ")));
            }
            long state = Arrays.stream(type.getDeclaredFields())
                .filter(field -> !Modifier.isStatic(field.getModifiers())).count();
            check(type + " has at most twenty fields", state <= 20);
        }
    }

    static List<Class<?>> allClasses() {
        List<Class<?>> all = new ArrayList<>(List.of(EchoMargins.class.getDeclaredClasses()));
        all.add(EchoMargins.class);
        return all;
    }

    static void source() throws Exception {
        String source = Files.readString(SOURCE);
        String code = source.replaceAll("(?s)/\\*.*?\\*/", "").replaceAll("//[^\n]*", "");
        Matcher matcher = RULED_OUT.matcher(code);
        while (matcher.find()) {
            check("nothing is used that LANGUAGE.md rules out: " + matcher.group(), false);
        }
        check("all signs are 1 to 127", source.chars().allMatch(sign -> sign > 0 && sign < 128));
    }

    /** No call may throw, whatever its arguments are, in states that few runs reach, too. */
    static void wildArguments() {
        int[] wild = {Integer.MIN_VALUE, -1000, -1, 0, 1, 2, 3, 5, 8, 9, 16, 59, 60, 99, 1000, 100000000, Integer.MAX_VALUE};
        EchoMargins x = new EchoMargins();
        for (int one : wild) {
            for (int other : wild) {
                for (int third : wild) {
                    x.write(one, other, third);
                    x.cell(one, other, third);
                    x.margin(one, other, third);
                }
                x.swap(one, other);
                x.set(one, other);
                x.row(one, other);
                x.would(one, other);
                x.order(one);
                x.comes();
                x.count(other);
                x.type(other);
                x.fault(one);
                x.play();
            }
            x.lose(one);
            x.mend(one);
            x.lay(one);
            x.days(one);
            x.at(one);
            x.begin(one);
            x.safeFor();
            x.mean();
            x.share();
            x.undo();
        }
    }

    public static void main(String[] args) throws Exception {
        face();
        faceOfTheDocument();
        headings();
        inside();
        shape();
        source();
        wildArguments();
        System.out.println(wrong == 0 ? "the face is the document's" : wrong + " checks do not hold");
        if (wrong != 0) {
            System.exit(1);
        }
    }
}
