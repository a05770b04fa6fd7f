/** Promise 8. */
public final class AlikeTest {
    public static void main(String[] args) {
        pair("a", "a", true);
        pair("a", "b", false);
        pair("a", "ab", false);
        pair("'a'", "a", true);
        pair("a", "a(b)", false);
        pair("a", "X", false);
        pair("1", "1", true);
        pair("1", "2", false);
        pair("1", "-1", false);
        pair("1", "'1'", false);
        pair("0", "X", false);
        pair("X", "Y", true);
        pair("f(X,Y)", "f(Y,X)", true);
        pair("f(X,X)", "f(Y,Y)", true);
        pair("f(X,X)", "f(X,Y)", false);
        pair("f(X,Y)", "f(Z,Z)", false);
        pair("f(_,_)", "f(X,Y)", true);
        pair("f(_,_)", "f(X,X)", false);
        pair("f(X,g(Y,X))", "f(A,g(B,A))", true);
        pair("f(X,g(Y,X))", "f(A,g(B,B))", false);
        pair("f(a,b)", "f(a,b,c)", false);
        pair("f(a,b,c)", "f(a,b)", false);
        pair("f(a)", "g(a)", false);
        pair("[97,98]", "\"ab\"", true);
        pair("'.'(1,2)", "[1|2]", true);
        pair("{}(a)", "{a}", true);
        pair("a+b*c", "+(a,*(b,c))", true);
        pair("a+b*c", "(a+b)*c", false);
        pair("- 1", "-1", false);
        pair("abcdefghi", "abcdefghj", false);
        pair("''", "[]", false);
        noTerm();
        Due.close();
    }

    private static void pair(String first, String second, boolean want) {
        TermReader x = new TermReader();
        Due.put(x, first + ".");
        Due.same(first, Due.read(x), "0");
        Due.put(x, second + ".");
        Due.same(second, Due.read(x), "1");
        Due.same(first + " and " + second, x.alike(0, 1), want);
        Due.same(second + " and " + first, x.alike(1, 0), want);
        Due.same(first + " and itself", x.alike(0, 0), true);
    }

    private static void noTerm() {
        TermReader x = new TermReader();
        Due.reads(x, "a.", "a");
        for (int t : new int[] {-1, 1, 40, Integer.MAX_VALUE, Integer.MIN_VALUE}) {
            Due.same("alike(0, " + t + ")", Due.answer(() -> x.alike(0, t)), "throws IndexOutOfBoundsException");
            Due.same("alike(" + t + ", 0)", Due.answer(() -> x.alike(t, 0)), "throws IndexOutOfBoundsException");
            Due.same("alike(" + t + ", " + t + ")", Due.answer(() -> x.alike(t, t)), "throws IndexOutOfBoundsException");
        }
    }
}
