/** Promise 3. */
public final class OpTest {
    private static final String WRONG = "throws IllegalArgumentException";
    private static final String REFUSED = "throws IllegalStateException";

    public static void main(String[] args) {
        arguments();
        types();
        takenBack();
        infixOrPostfix();
        most();
        Due.close();
    }

    private static void arguments() {
        TermReader x = new TermReader();
        Due.same("priority -1", Due.op(x, -1, 0, "x"), WRONG);
        Due.same("priority 1201", Due.op(x, 1201, 0, "x"), WRONG);
        Due.same("least int", Due.op(x, Integer.MIN_VALUE, 0, "x"), WRONG);
        Due.same("type -1", Due.op(x, 5, -1, "x"), WRONG);
        Due.same("type 7", Due.op(x, 5, 7, "x"), WRONG);
        Due.same("type 7 with priority 0", Due.op(x, 0, 7, "x"), WRONG);
        for (String name : new String[] {"", ",", ".", "/*", "/*+", "a+", "+a", "aB", "A", "a1", "_", "!", ";", "[]", "{}",
            "|", "(", " ", "a b", "\"", "'", "%", "`", "\n"}) {
            Due.same("the name " + name, Due.op(x, 5, 0, name), WRONG);
            Due.same("the name " + name + " with priority 0", Due.op(x, 0, 0, name), WRONG);
        }
        Due.same("count(3)", x.count(3), 14);
        for (String name : new String[] {"..", "*/", "/", "a", "z", "abcdefgh", "+-*/\\^<>", "=~:.?@#&"}) {
            Due.same("the name " + name, Due.op(x, 1200, 0, name), "told");
        }
        Due.same("behind a zero byte", Due.op(x, 1, 3, 0xff000000L | Due.packed("$$")), "told");
        Due.same("count(3)", x.count(3), 22);
        Due.reads(x, "$$ a = abcdefgh .. 1.", WRONG);
        Due.reads(x, "c abcdefgh d.", "c abcdefgh d");
        Due.reads(x, "$$ (c ..d).", "$$ (c .. d)");
    }

    private static void types() {
        TermReader x = new TermReader();
        Due.op(x, 300, 0, "xfx");
        Due.op(x, 300, 1, "xfy");
        Due.op(x, 300, 2, "yfx");
        Due.op(x, 300, 3, "fy");
        Due.op(x, 300, 4, "fx");
        Due.op(x, 300, 5, "xf");
        Due.op(x, 300, 6, "yf");
        Due.reads(x, "a xfx b xfx c.", WRONG);
        Due.reads(x, "a xfy b xfy c.", "a xfy b xfy c");
        Due.reads(x, "a yfx b yfx c.", "a yfx b yfx c");
        Due.reads(x, "xfy(xfy(a,b),c).", "(a xfy b) xfy c");
        Due.reads(x, "yfx(a,yfx(b,c)).", "a yfx (b yfx c)");
        Due.reads(x, "fy fy a.", "fy fy a");
        Due.reads(x, "fx fx a.", WRONG);
        Due.reads(x, "fx(fx(a)).", "fx (fx a)");
        Due.reads(x, "a xf xf.", WRONG);
        Due.reads(x, "xf(xf(a)).", "(a xf) xf");
        Due.reads(x, "a yf yf.", "a yf yf");
        // An open operator ahead of a name of the same priority would take that name into its argument.
        Due.reads(x, "yfx(xfy(a,b),c).", "(a xfy b) yfx c");
        Due.reads(x, "a xfy b yfx c.", "a xfy b yfx c");
        Due.reads(x, "yf(fy(a)).", "(fy a) yf");
        Due.reads(x, "fy a yf.", "fy a yf");
        Due.reads(x, "yf(fx(a)).", "fx a yf");
        Due.reads(x, "yf(yfx(a,b)).", "a yfx b yf");
        Due.same("redefining", Due.op(x, 250, 1, "xfx"), "told");
        Due.same("redefining", Due.op(x, 600, 3, "fx"), "told");
        Due.same("count(3)", x.count(3), 21);
        Due.reads(x, "fx fx a xfx b xfx c yfx d.", "fx fx a xfx b xfx c yfx d");
        Due.same("prefix and infix", Due.op(x, 900, 3, "xfx"), "told");
        Due.same("count(3)", x.count(3), 22);
        Due.reads(x, "xfx a xfx b.", "xfx a xfx b");
    }

    private static void takenBack() {
        TermReader x = new TermReader();
        Due.same("no operator", Due.op(x, 0, 0, "foo"), "told");
        Due.same("count(3)", x.count(3), 14);
        Due.same("- as infix", Due.op(x, 0, 5, "-"), "told");
        Due.same("count(3)", x.count(3), 13);
        Due.reads(x, "a - b.", WRONG);
        Due.reads(x, "- a = -(a,b).", "- a = -(a,b)");
        Due.same("- as prefix", Due.op(x, 0, 4, "-"), "told");
        Due.same("- as prefix again", Due.op(x, 0, 3, "-"), "told");
        Due.same("count(3)", x.count(3), 12);
        Due.reads(x, "- a.", WRONG);
        Due.reads(x, "-1 = -(1).", "-1 = -(1)");
        Due.same("- again", Due.op(x, 500, 2, "-"), "told");
        // The - of an integer begins a term though it is an infix operator and no prefix one.
        Due.reads(x, "\\+ -1.", "\\+ -1");
        Due.reads(x, "\\+ - 1.", "(\\+) - 1");
        Due.reads(x, "a :- b.", "a :- b");
    }

    private static void infixOrPostfix() {
        TermReader x = new TermReader();
        Due.same("infix as postfix", Due.op(x, 100, 5, "is"), REFUSED);
        Due.same("infix as postfix", Due.op(x, 100, 6, "is"), REFUSED);
        Due.same("postfix", Due.op(x, 100, 5, "up"), "told");
        Due.same("other postfix", Due.op(x, 100, 6, "up"), "told");
        for (int type = 0; type < 3; type++) {
            Due.same("postfix as infix", Due.op(x, 100, type, "up"), REFUSED);
        }
        Due.same("postfix and prefix", Due.op(x, 100, 4, "up"), "told");
        Due.same("count(3)", x.count(3), 16);
        Due.reads(x, "a up up.", "up (up a)");
        Due.reads(x, "up a.", "up a");
        Due.same("postfix by an infix type", Due.op(x, 0, 0, "up"), "told");
        Due.same("count(3)", x.count(3), 15);
        Due.reads(x, "a up.", WRONG);
        Due.same("infix now", Due.op(x, 100, 0, "up"), "told");
        Due.reads(x, "a up b.", "a up b");
    }

    private static void most() {
        TermReader x = new TermReader();
        for (int i = 0; i < 10; i++) {
            Due.same("operator " + i, Due.op(x, 100, i % 7, "q" + (char) ('a' + i)), "told");
        }
        Due.same("count(3)", x.count(3), 24);
        Due.same("the 25th", Due.op(x, 100, 0, "zz"), REFUSED);
        Due.same("the 25th, a prefix one", Due.op(x, 100, 3, "is"), REFUSED);
        Due.same("wrong arguments go first", Due.op(x, 1201, 0, "zz"), WRONG);
        Due.same("one that is there", Due.op(x, 101, 1, "is"), "told");
        Due.same("none", Due.op(x, 0, 1, "zz"), "told");
        Due.same("one out", Due.op(x, 0, 0, "is"), "told");
        Due.same("one in", Due.op(x, 100, 3, "is"), "told");
        Due.same("the 25th", Due.op(x, 100, 0, "zz"), REFUSED);
        Due.same("count(3)", x.count(3), 24);
        Due.reads(x, "is a, b qa c.", "is a,b qa c");
    }
}
