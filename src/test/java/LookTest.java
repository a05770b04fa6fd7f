/** Promise 9. */
public final class LookTest {
    public static void main(String[] args) {
        look("X", 0, 0, 0, 1);
        look("_", 0, 0, 0, 1);
        look("17", 1, 0, 17, 1);
        look("-17", 1, 0, -17, 1);
        look("2147483647", 1, 0, 2147483647, 1);
        look("abc", 2, 0, 3, 1);
        look("''", 2, 0, 0, 1);
        look("'\\n'''", 2, 0, 2, 1);
        look("[]", 2, 0, 2, 1);
        look("f(a,b,c,d,e,g)", 3, 6, 1, 2);
        look("a:-b", 3, 2, 2, 2);
        look("- 1", 3, 1, 1, 2);
        look("a,b", 3, 2, 1, 2);
        look("[a]", 3, 2, 1, 2);
        look("[a,b,c]", 3, 2, 1, 4);
        look("\"abc\"", 3, 2, 1, 4);
        look("\"\"", 2, 0, 2, 1);
        look("{a}", 3, 1, 2, 2);
        look("f(a,g(h(X),b),c)", 3, 3, 1, 4);
        look("a+b+c+d", 3, 2, 1, 4);
        look("a" + Due.repeat("+a", 13), 3, 2, 1, 14);
        wrong();
        Due.close();
    }

    private static void look(String text, int kind, int arguments, int value, int depth) {
        TermReader x = new TermReader();
        Due.put(x, text + ".");
        Due.same(text, Due.read(x), "0");
        Due.same(text + ": 0", x.look(0, 0), kind);
        Due.same(text + ": 1", x.look(0, 1), arguments);
        Due.same(text + ": 2", x.look(0, 2), value);
        Due.same(text + ": 3", x.look(0, 3), depth);
    }

    private static void wrong() {
        TermReader x = new TermReader();
        Due.reads(x, "a.", "a");
        for (int what : new int[] {-1, 4, Integer.MAX_VALUE, Integer.MIN_VALUE}) {
            Due.same("look(0, " + what + ")", Due.answer(() -> x.look(0, what)), "throws IllegalArgumentException");
            Due.same("look(1, " + what + ")", Due.answer(() -> x.look(1, what)), "throws IndexOutOfBoundsException");
            Due.same("look(" + what + ", 0)", Due.answer(() -> x.look(what, 0)), "throws IndexOutOfBoundsException");
        }
    }
}
