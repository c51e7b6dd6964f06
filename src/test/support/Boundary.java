import java.io.IOException;
import java.lang.reflect.InvocationTargetException;
import java.lang.reflect.Method;
import java.nio.file.Files;
import java.nio.file.Path;
import java.util.ArrayList;
import java.util.Arrays;
import java.util.Comparator;
import java.util.List;
import java.util.function.IntUnaryOperator;
import java.util.function.Supplier;
import java.util.function.ToIntFunction;
import java.util.regex.Matcher;
import java.util.regex.Pattern;

/** What the tests of boundary cases share: each of their methods stands for one sentence. */
abstract class Boundary {
    static final int INVALID = -1000001;
    static final int NOT_POSSIBLE = -1000002;
    static final int LIMIT = -1000003;
    static final int NOT_FOUND = -1000004;

    private static final Path DOCUMENT = Path.of("../shared/DOC.md");

    private static int wrong = 0;
    private static int asked = 0;
    private static String sentence = "";

    static void due(String call, int got, int want) {
        asked++;
        if (got != want) {
            wrong++;
            System.out.println(sentence + ": " + call + " answered " + got + ", due is " + want);
        }
    }

    static void due(String call, float got, float want) {
        due(call + " as bits of a float", Float.floatToIntBits(got), Float.floatToIntBits(want));
    }

    static float asFloat(int bits) {
        return Float.intBitsToFloat(bits);
    }

    static void type(EchoMargins x, String text) {
        for (int i = 0; i < text.length(); i++) {
            x.type(text.charAt(i));
        }
    }

    static EchoMargins begun(int rows) {
        EchoMargins x = new EchoMargins();
        x.begin(rows);
        return x;
    }

    static EchoMargins typed(String text) {
        EchoMargins x = new EchoMargins();
        type(x, text);
        return x;
    }

    /** Tries numbers beside a range, and far ones, some of which are in it again if their high bits are lost. */
    static void refused(String call, int first, int last, IntUnaryOperator answer) {
        int[] numbers = {first - 1, last + 1, first - 2, last + 2, last + 32, last + 64, 256 + first, 65536 + first,
            -1000, 1000000, Integer.MIN_VALUE, Integer.MIN_VALUE + first, Integer.MAX_VALUE};
        for (int number : numbers) {
            if (number < first || number > last) {
                due(call + " with " + number, answer.applyAsInt(number), INVALID);
            }
        }
    }

    /** The echoes of a margin, from the first one on: row and cell as two digits, as "10 12 41". */
    static String marginOf(EchoMargins x, int row) {
        StringBuilder echoes = new StringBuilder();
        for (int rank = 0; rank < 17; rank++) {
            int owner = x.margin(row, rank, 0);
            if (owner < 0) {
                break;
            }
            echoes.append(rank == 0 ? "" : " ").append(owner).append(x.margin(row, rank, 1));
        }
        return echoes.toString();
    }

    static void dueMargin(EchoMargins x, int row, String want) {
        String got = marginOf(x, row);
        if (!got.equals(want)) {
            System.out.println("the margin of " + row + " has [" + got + "], due is [" + want + "]");
        }
        due("the margin of " + row + " has " + want, got.equals(want) ? 1 : 0, 1);
    }

    /** Everything that can be asked of an object, for rows that there are and some beyond. */
    private static List<ToIntFunction<EchoMargins>> questions() {
        List<ToIntFunction<EchoMargins>> all = new ArrayList<>();
        for (int i = 0; i < 9; i++) {
            int row = i;
            all.add(x -> x.at(row));
            for (int k = 0; k < 10; k++) {
                int what = k;
                all.add(x -> x.row(row, what));
                all.add(x -> x.would(row, what));
                for (int j = 0; j < 16 && what < 5; j++) {
                    int which = j;
                    all.add(x -> x.cell(row, which, what));
                    all.add(x -> x.margin(row, which, what));
                }
            }
        }
        for (int i = 0; i < 22; i++) {
            int what = i;
            all.add(x -> x.count(what));
            all.add(x -> x.fault(what));
        }
        for (int i = 0; i < 5; i++) {
            int rank = i;
            all.add(x -> x.order(rank));
        }
        all.add(EchoMargins::comes);
        all.add(EchoMargins::safeFor);
        all.add(EchoMargins::mean);
        all.add(EchoMargins::share);
        return all;
    }

    /** Asked in parts, of new objects each time: one object is good for 512 calls alone. */
    static void alike(String call, Supplier<EchoMargins> one, Supplier<EchoMargins> other) {
        List<ToIntFunction<EchoMargins>> all = questions();
        for (int from = 0; from < all.size(); from += 200) {
            EchoMargins x = one.get();
            EchoMargins y = other.get();
            for (int i = from; i < Math.min(all.size(), from + 200); i++) {
                due(call + ", question " + i, all.get(i).applyAsInt(x), all.get(i).applyAsInt(y));
            }
        }
    }

    /** The call answers as is due, and leaves all there is as it was, and all that undo brings back. */
    static void changesNothing(String call, Supplier<EchoMargins> made, ToIntFunction<EchoMargins> answer, int want) {
        int states = made.get().count(14);
        for (int undone = 0; undone <= states; undone++) {
            int many = undone;
            alike(call + ", " + undone + " undone",
                () -> {
                    EchoMargins x = made.get();
                    due(call, answer.applyAsInt(x), want);
                    return back(x, many);
                },
                () -> back(made.get(), many));
        }
    }

    private static EchoMargins back(EchoMargins x, int many) {
        for (int i = 0; i < many; i++) {
            x.undo();
        }
        return x;
    }

    /** Runs all tests of a class, and ends with exit code 1 if a sentence is broken. */
    static void runAll(Class<?> tests) throws IOException, IllegalAccessException {
        String document = Files.readString(DOCUMENT).replaceAll("\\s+", " ");
        Method[] methods = tests.getDeclaredMethods();
        Arrays.sort(methods, Comparator.comparing(Method::getName));
        int many = 0;
        for (Method method : methods) {
            Sentence named = method.getAnnotation(Sentence.class);
            if (named != null) {
                many++;
                run(method, named, document);
            }
        }
        System.out.println(wrong == 0 ? many + " sentences hold" : wrong + " answers are not as due");
        if (wrong != 0 || many == 0) {
            System.exit(1);
        }
    }

    private static void run(Method method, Sentence named, String document) throws IllegalAccessException {
        String section = named.in().isEmpty() ? "Promise " + named.promise() + ":" : named.in();
        sentence = "promise " + named.promise() + ", \"" + named.says() + "\" (" + method.getName() + ")";
        due("the sentence stands under " + section, sectionOf(document, section).contains(named.says()) ? 1 : 0, 1);
        int before = asked;
        try {
            method.invoke(null);
        } catch (InvocationTargetException thrown) {
            due("a call threw " + thrown.getCause(), 1, 0);
        }
        due("the test asks something", asked > before ? 1 : 0, 1);
    }

    /** From the heading to the next one. */
    private static String sectionOf(String document, String title) {
        Matcher section = Pattern.compile("## " + Pattern.quote(title) + "(.*?)( ##+ |$)").matcher(document);
        return section.find() ? section.group(1) : "";
    }
}
