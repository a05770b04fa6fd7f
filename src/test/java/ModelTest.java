import java.util.ArrayList;
import java.util.List;
import java.util.Random;

/**
 * Runs of calls that a fixed seed draws, each answered by the class and by PlainModel alike; what is
 * written must read as the same term again unless it has become too deep.
 */
public final class ModelTest {
    private static final String[] NAMES = {"a", "b", "f", "is", "up", "not", "x", "-", "+", "*", "/", "^", "=", "<", ":-", "->",
        ";", "\\+", "!", "[]", "{}", "@", "$$", "'-'", "'='", "','", "'a b'", "''", "'it''s'", "'\\n'", "'.'", "'/*'", "'[]'",
        "abcdefghijklmnopqrstuvwx", "."};
    private static final String[] SIMPLE = {"X", "Y", "_", "_0", "Zz", "0", "1", "-1", "- 1", "0x1f", "0'a", "0'", "2147483647",
        "2147483648", "\"ab\"", "\"\"", "\"abcdefghijkl\"", "0x", "007"};
    private static final String[] WILD = {"(", ")", "[", "]", "{", "}", ",", "|", " ", "  ", ".", ". ", "%", "/*", "*/", "'", "\"",
        "\\", "`", "/* c */", "f(", "-(", "[a|", "_"};
    private static final String[] OPERATORS = {"is", "up", "not", "x", "-", "+", "*", "/", "^", "=", "<", ":-", "->", "\\+", "@",
        "$$", "a", "f", "p", "q", "abcdefgh", ".", "/*", ";", ",", "", "..", "a1", "b", "c", "d", "e", "g", "h"};
    private static final int[] PRIORITIES = {0, 0, 0, 1, 2, 200, 200, 200, 400, 500, 500, 700, 900, 999, 1000, 1001, 1100, 1200,
        1201, -1};

    private final Random random;
    private final TermReader x = new TermReader();
    private final PlainModel model = new PlainModel();
    private final List<String> calls = new ArrayList<>();
    private static int read = 0;
    private static int readAgain = 0;
    private static boolean different = false;

    private ModelTest(long seed) {
        random = new Random(seed);
    }

    public static void main(String[] args) {
        int runs = args.length > 0 ? Integer.parseInt(args[0]) : 4000;
        for (int seed = 0; seed < runs && !different; seed++) {
            new ModelTest(seed).run();
        }
        System.out.println(runs + " runs, " + read + " terms read, " + readAgain + " written and read again");
        if (different || read == 0 || readAgain == 0) {
            System.exit(1);
        }
    }

    private void run() {
        while (calls.size() < 500 && !different) {
            int choice = random.nextInt(20);
            if (choice < 3) {
                tellOperator();
            } else if (choice == 3) {
                wildCall();
            } else {
                readText();
            }
        }
    }

    private String pick(String[] from) {
        return from[random.nextInt(from.length)];
    }

    private void judge(String call, String got, String want) {
        calls.add(call + " " + got);
        if (!got.equals(want) && !different) {
            different = true;
            calls.forEach(System.out::println);
            System.out.println("due is " + want);
        }
    }

    private void tellOperator() {
        int priority = PRIORITIES[random.nextInt(PRIORITIES.length)];
        int type = random.nextInt(9) - 1;
        String name = pick(OPERATORS);
        judge("op " + priority + " " + type + " " + name, Due.op(x, priority, type, name), Due.answer(() -> {
            model.op(priority, type, Due.packed(name));
            return "told";
        }));
    }

    private void wildCall() {
        int t = random.nextInt(44) - 2;
        int u = random.nextInt(44) - 2;
        int what = random.nextInt(6) - 1;
        long s = random.nextBoolean() ? random.nextLong() : random.nextLong() & 0x7f7f7f7f7f7fL;
        judge("look " + t + " " + what, Due.answer(() -> x.look(t, what)), Due.answer(() -> model.look(t, what)));
        judge("count " + what, Due.answer(() -> x.count(what)), Due.answer(() -> model.count(what)));
        judge("alike " + t + " " + u, Due.answer(() -> x.alike(t, u)), Due.answer(() -> model.alike(t, u)));
        judge("write " + t, Due.answer(() -> x.write(t)), Due.answer(() -> model.write(t)));
        judge("written " + u, Due.answer(() -> x.written(u)), Due.answer(() -> model.written(u)));
        judge("text " + s, Due.answer(() -> x.text(s)), Due.answer(() -> model.text(s)));
        judge("again", Due.answer(x::again), Due.answer(model::again));
    }

    private String drawnTerm(int deep) {
        int choice = random.nextInt(deep <= 0 ? 5 : 16);
        String blank = random.nextInt(3) == 0 ? "" : " ";
        if (choice < 3) {
            return pick(NAMES);
        }
        if (choice < 5) {
            return pick(SIMPLE);
        }
        if (choice < 8) {
            return drawnTerm(deep - 1) + blank + pick(NAMES) + blank + drawnTerm(deep - 1);
        }
        if (choice < 10) {
            return pick(NAMES) + blank + drawnTerm(deep - 1);
        }
        if (choice == 10) {
            return drawnTerm(deep - 1) + blank + pick(NAMES);
        }
        if (choice == 11) {
            return "(" + drawnTerm(deep - 1) + ")";
        }
        if (choice == 12) {
            return "{" + drawnTerm(deep - 1) + "}";
        }
        String inner = drawnTerm(deep - 1);
        for (int i = random.nextInt(4); i > 0; i--) {
            inner += "," + drawnTerm(deep - 2);
        }
        if (choice == 13) {
            return "[" + inner + (random.nextBoolean() ? "|" + drawnTerm(deep - 2) : "") + "]";
        }
        return choice == 14 ? inner : pick(NAMES) + "(" + inner + ")";
    }

    private String drawnText() {
        StringBuilder all = new StringBuilder(drawnTerm(random.nextInt(6)));
        if (random.nextInt(4) == 0) {
            for (int i = random.nextInt(3) + 1; i > 0; i--) {
                all.insert(random.nextInt(all.length() + 1), random.nextInt(3) == 0 ? pick(NAMES) : pick(WILD));
            }
        }
        return all + (random.nextBoolean() ? "." : " .") + (random.nextInt(5) == 0 ? " b" : "");
    }

    private void readText() {
        String text = drawnText();
        for (int i = 0; i < text.length(); i += 8) {
            long s = Due.packed(text.substring(i, Math.min(text.length(), i + 8)));
            judge("text " + text, Due.answer(() -> x.text(s)), Due.answer(() -> model.text(s)));
        }
        if (!bothRead() || !bothWrite(x.count(1) - 1) || random.nextInt(3) == 0) {
            return;
        }
        int t = x.count(1) - 1;
        judge("again", Due.answer(x::again), Due.answer(model::again));
        String before = Due.written(x);
        judge("only too deep", String.valueOf(model.isOnlyTooDeep(t)), "true");
        if (before.length() <= 117 && bothRead()) {
            readAgain++;
            judge("alike", Due.answer(() -> x.alike(t, t + 1)), "true");
            bothWrite(t + 1);
            judge("written the same", Due.written(x), before);
        }
    }

    private boolean bothRead() {
        String got = Due.read(x);
        judge("read", got, Due.answer(model::read));
        judge("count 0", Due.answer(() -> x.count(0)), Due.answer(() -> model.count(0)));
        judge("count 2", Due.answer(() -> x.count(2)), Due.answer(() -> model.count(2)));
        boolean done = !got.startsWith("throws");
        read += done ? 1 : 0;
        return done;
    }

    private boolean bothWrite(int t) {
        judge("write " + t, Due.answer(() -> x.write(t)), Due.answer(() -> model.write(t)));
        judge("written", Due.written(x), model.allWritten());
        for (int what = 0; what < 4; what++) {
            int w = what;
            judge("look " + t + " " + w, Due.answer(() -> x.look(t, w)), Due.answer(() -> model.look(t, w)));
        }
        return true;
    }
}
