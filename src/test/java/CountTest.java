/** Promise 10. */
public final class CountTest {
    public static void main(String[] args) {
        TermReader x = new TermReader();
        counts(x, 0, 0, 0, 14);
        Due.put(x, "f(X,X,1,a,\"bc\",[d|_]). g");
        counts(x, 24, 0, 0, 14);
        Due.read(x);
        // f, X, X, 1, a; two lists, two integers and []; a list, d and a variable.
        counts(x, 2, 1, 13, 14);
        Due.put(x, ".");
        Due.read(x);
        counts(x, 0, 2, 14, 14);
        Due.put(x, "f(a,b");
        Due.read(x);
        counts(x, 0, 2, 14, 14);
        Due.op(x, 100, 3, "p");
        Due.op(x, 100, 0, "p");
        Due.op(x, 200, 0, "p");
        counts(x, 0, 2, 14, 16);
        Due.op(x, 0, 0, "p");
        counts(x, 0, 2, 14, 15);
        Due.put(x, "- (1) + {a}.");
        Due.read(x);
        counts(x, 0, 3, 19, 15);
        for (int what : new int[] {-1, 4, Integer.MAX_VALUE, Integer.MIN_VALUE}) {
            Due.same("count(" + what + ")", Due.answer(() -> x.count(what)), "throws IllegalArgumentException");
        }
        Due.close();
    }

    private static void counts(TermReader x, int text, int terms, int parts, int operators) {
        Due.same("count(0)", x.count(0), text);
        Due.same("count(1)", x.count(1), terms);
        Due.same("count(2)", x.count(2), parts);
        Due.same("count(3)", x.count(3), operators);
    }
}
