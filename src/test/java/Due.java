import java.util.function.Supplier;

/** What the tests share: calls told by texts instead of packed numbers, and the judging of answers. */
final class Due {
    private static int judged = 0;
    private static int wrong = 0;
    private static String sentence = "";

    private Due() {
    }

    /** The sentence of the document that the judgements from here on hold the class to. */
    static void says(String words) {
        sentence = "\"" + words + "\": ";
    }

    static void same(String what, Object got, Object want) {
        judged++;
        if (!want.equals(got)) {
            wrong++;
            System.out.println(sentence + what + " answered " + got + ", due is " + want);
        }
    }

    static void close() {
        System.out.println(judged + " answers judged, " + wrong + " wrong");
        if (wrong != 0 || judged == 0) {
            System.exit(1);
        }
    }

    static long packed(String text) {
        long packed = 0;
        for (int i = text.length() - 1; i >= 0; i--) {
            packed = packed << 8 | text.charAt(i);
        }
        return packed;
    }

    /** The answer as a text, or "throws" and the exception's name. */
    static String answer(Supplier<Object> call) {
        try {
            return String.valueOf(call.get());
        } catch (RuntimeException e) {
            return "throws " + e.getClass().getSimpleName();
        }
    }

    static boolean put(TermReader x, String text) {
        boolean all = true;
        for (int i = 0; i < text.length(); i += 8) {
            all &= x.text(packed(text.substring(i, Math.min(text.length(), i + 8))));
        }
        return all;
    }

    static String op(TermReader x, int priority, int type, String name) {
        return op(x, priority, type, packed(name));
    }

    static String op(TermReader x, int priority, int type, long name) {
        return answer(() -> {
            x.op(priority, type, name);
            return "told";
        });
    }

    static String read(TermReader x) {
        return answer(x::read);
    }

    static String written(TermReader x) {
        StringBuilder all = new StringBuilder();
        for (int i = 0; x.written(i) != -1; i++) {
            all.append((char) x.written(i));
        }
        return all.toString();
    }

    /** Term t as it is written, or what write throws. */
    static String write(TermReader x, int t) {
        String size = answer(() -> x.write(t));
        if (size.startsWith("throws")) {
            return size;
        }
        String all = written(x);
        return size.equals(String.valueOf(all.length())) ? all : "of " + size + " characters: " + all;
    }

    /** What a text reads as, written again; or what read throws. */
    static String term(TermReader x, String text) {
        if (!put(x, text)) {
            return "the text is refused";
        }
        String t = read(x);
        return t.startsWith("throws") ? t : write(x, Integer.parseInt(t));
    }

    /** What a text reads as on a new object: the answers of look() for 0, 1 and 2; or what read throws. */
    static String looks(String text) {
        TermReader x = new TermReader();
        if (!put(x, text)) {
            return "the text is refused";
        }
        String t = read(x);
        return t.startsWith("throws") ? t : x.look(0, 0) + " " + x.look(0, 1) + " " + x.look(0, 2);
    }

    static void looks(String text, String want) {
        same(text, looks(text), want);
    }

    static void reads(TermReader x, String text, String want) {
        same(text, term(x, text), want);
    }

    static void reads(String text, String want) {
        reads(new TermReader(), text, want);
    }

    static void isError(String text) {
        reads(text, "throws IllegalArgumentException");
    }

    static void isError(TermReader x, String text) {
        reads(x, text, "throws IllegalArgumentException");
    }

    /** All that a text can hold, in the order of their codes. */
    static String characters() {
        StringBuilder all = new StringBuilder();
        for (char c = 32; c <= 126; c++) {
            all.append(c);
        }
        return all.toString();
    }

    static String repeat(String s, int n) {
        return s.repeat(n);
    }
}
