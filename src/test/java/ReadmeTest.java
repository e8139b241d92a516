import java.nio.file.Files;
import java.nio.file.Path;
import java.util.ArrayList;
import java.util.List;
import java.util.regex.Matcher;
import java.util.regex.Pattern;

/** The example of README.md: its calls in their order, each answer held against the number in its comment. */
public final class ReadmeTest {
    private static final Pattern CALL = Pattern.compile("(?:int \\w+ = )?x\\.(\\w+\\([^)]*\\));\\s*// (-?\\d+)\\b.*");
    private static final List<String> calls = new ArrayList<>();
    private static final List<Integer> told = new ArrayList<>();
    private static int at = 0;
    private static int wrong = 0;

    public static void main(String[] args) throws Exception {
        readExample();
        callAll();
        if (at != calls.size()) {
            wrong++;
            System.out.println("README.md has " + calls.size() + " calls, tried are " + at);
        }
        System.out.println(wrong == 0 ? at + " calls of README.md answer as it says" : wrong + " do not");
        if (wrong != 0) {
            System.exit(1);
        }
    }

    private static void readExample() throws Exception {
        for (String row : Files.readString(Path.of("README.md")).split("\n")) {
            Matcher m = CALL.matcher(row);
            if (m.matches()) {
                calls.add(m.group(1));
                told.add(Integer.parseInt(m.group(2)));
            } else if (row.contains("x.")) {
                wrong++;
                System.out.println("README.md: a call without its answer: " + row);
            }
        }
    }

    private static int next(String call, int got) {
        boolean isThere = at < calls.size() && calls.get(at).equals(call);
        if (!isThere || told.get(at) != got) {
            wrong++;
            System.out.println("call " + at + ": " + call + " answered " + got + ", README.md says "
                + (at < calls.size() ? calls.get(at) + " answers " + told.get(at) : "nothing more"));
        }
        at++;
        return got;
    }

    private static void callAll() {
        PurityEffects x = new PurityEffects();
        int point = next("type(-1)", x.type(-1));
        int left = next("field(point, false)", x.field(point, false));
        int next = next("field(point, true)", x.field(point, true));
        int setLeft = next("method(1, 1, 0)", x.method(1, 1, 0));
        next("line(setLeft, 11, 0, 0, left)", x.line(setLeft, 11, 0, 0, left));
        int getLeft = next("method(0, 1, 1)", x.method(0, 1, 1));
        next("line(getLeft, 10, 0, 0, left)", x.line(getLeft, 10, 0, 0, left));
        next("line(getLeft, 31, 0, 0, 0)", x.line(getLeft, 31, 0, 0, 0));
        next("caught(getLeft, 0, 1, 3, 2)", x.caught(getLeft, 0, 1, 3, 2));
        int p = next("thing(point)", x.thing(point));
        next("put(p, next, p)", x.put(p, next, p));
        next("arg(0, false, 0, 7)", x.arg(0, false, 0, 7));
        next("arg(0, true, 0, p)", x.arg(0, true, 0, p));
        next("arg(1, true, 0, p)", x.arg(1, true, 0, p));
        next("analyse()", x.analyse());
        next("effects(getLeft, 5)", x.effects(getLeft, 5));
        next("effects(setLeft, 3)", x.effects(setLeft, 3));
        next("by(setLeft, 0, true)", x.by(setLeft, 0, true));
        next("may(setLeft, 0, 0)", x.may(setLeft, 0, 0));
        next("free(setLeft, getLeft)", x.free(setLeft, getLeft));
        next("both(setLeft, getLeft)", x.both(setLeft, getLeft));
        next("run(setLeft)", x.run(setLeft));
        next("get(p, left)", x.get(p, left));
        next("did(1)", x.did(1));
        next("foreseen()", x.foreseen());
        next("both(setLeft, getLeft)", x.both(setLeft, getLeft));
    }
}
