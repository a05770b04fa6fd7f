/** Promises 5 to 7: write, written and again. */
public final class WriteTest {
    private static final String NO_TERM = "throws IndexOutOfBoundsException";

    public static void main(String[] args) {
        noTerm();
        names();
        brackets();
        operatorsOfNow();
        written();
        again();
        longest();
        Due.close();
    }

    private static void noTerm() {
        TermReader x = new TermReader();
        Due.reads(x, "a.", "a");
        Due.same("write(-1)", Due.write(x, -1), NO_TERM);
        Due.same("write(1)", Due.write(x, 1), NO_TERM);
        Due.same("write(40)", Due.write(x, 40), NO_TERM);
        Due.same("the greatest int", Due.write(x, Integer.MAX_VALUE), NO_TERM);
        Due.same("the least int", Due.write(x, Integer.MIN_VALUE), NO_TERM);
        Due.same("what was written stays", Due.written(x), "a");
    }

    private static void names() {
        for (String name : new String[] {"a", "aB_1", "[]", "{}", "!", ";", "+", "..", "*/", "./*", "\\", "=..", "#"}) {
            Due.reads("f('" + name.replace("\\", "\\\\") + "').", "f(" + name + ")");
        }
        for (String name : new String[] {"", "A", "_", "1", "a b", ".", "/*", "/*+", "a+", "+a", "[", "]", "[]a", "!!", ";;", ",",
            "|", "(", "{", " ", "a.", "\"", "%", "`", "a-"}) {
            Due.reads("f('" + name + "').", "f('" + name + "')");
            Due.reads("'" + name + "'(a).", "'" + name + "'(a)");
        }
        Due.reads("'\\''.", "'\\''");
        Due.reads("'\\n'('\\t').", "'\\n'('\\t')");
        Due.reads("'\\\\a'.", "'\\\\a'");
        Due.reads("f(-1,0,-2147483647,1000000000,999999999,10).", "f(-1,0,-2147483647,1000000000,999999999,10)");
    }

    private static void brackets() {
        Due.reads("f((a:-b),[(a:-b)],{(a:-b)},(a;b)).", "f((a :- b),[(a :- b)],{a :- b},(a ; b))");
        Due.reads("f((a,b),(\\+a)).", "f((a,b),\\+ a)");
        Due.reads("(:-) :- (:-).", "(:-) :- (:-)");
        Due.reads("f(:-,[-|-],{;}).", "f(:-,[-|-],{;})");
        Due.reads("(;),(',').", "(;),(',')");
        Due.reads("- (-).", "- (-)");
        Due.reads("- (a).", "- a");
        Due.reads("[]+{}+ ! .", "[] + {} + !");
        Due.reads("-(-(1)).", "- - 1");
        Due.reads("-(-1).", "- -1");
        Due.reads("1-(-1).", "1 - -1");
        Due.reads("(-1)-1.", "-1 - 1");
        Due.reads("a-(b-c)-d.", "a - (b - c) - d");
        Due.reads("(a,b;c),d.", "(a,b ; c),d");
        Due.reads("(a:-b,c),d.", "(a :- b,c),d");
        Due.reads("- (a=b).", "- (a = b)");
        Due.reads("(- a)*(- b).", "- a * - b");
        Due.reads("';'(a).", ";(a)");
        Due.reads("','(a,b,c).", "','(a,b,c)");
        Due.reads("'.'(a,'.'(b,'.'(c))).", "[a,b|'.'(c)]");
        Due.reads("{}({}({})).", "{{{}}}");
        TermReader x = new TermReader();
        Due.op(x, 500, 1, "++");
        Due.op(x, 500, 3, "?");
        Due.op(x, 500, 4, "@");
        Due.op(x, 500, 6, "$");
        Due.op(x, 500, 3, "$");
        Due.op(x, 200, 3, "++");
        Due.reads(x, "(a++b)+c.", "(a ++ b) + c");
        Due.reads(x, "(?a)+c.", "(? a) + c");
        Due.reads(x, "(@a)+c.", "@ a + c");
        Due.reads(x, "(a-b)+c.", "a - b + c");
        Due.reads(x, "a++(b++c).", "a ++ b ++ c");
        Due.reads(x, "? ? a.", "? ? a");
        Due.reads(x, "? (a+b).", "? a + b");
        Due.reads(x, "a++(?b).", "a ++ ? b");
        Due.reads(x, "a $ .", "$ a");
        Due.reads(x, "(a $) + b.", "($ a) + b");
        Due.reads(x, "- (++ a).", "- ++ a");
    }

    private static void operatorsOfNow() {
        TermReader x = new TermReader();
        Due.reads(x, "f(p(a),q(b,c),is).", "f(p(a),q(b,c),is)");
        Due.op(x, 1000, 3, "p");
        Due.op(x, 999, 0, "q");
        Due.same("write(0)", Due.write(x, 0), "f((p a),b q c,is)");
        Due.op(x, 0, 3, "p");
        Due.op(x, 200, 5, "p");
        Due.same("write(0)", Due.write(x, 0), "f(a p,b q c,is)");
        Due.reads(x, "is+a.", "(is) + a");
        Due.op(x, 0, 0, "is");
        Due.same("write(1)", Due.write(x, 1), "is + a");
    }

    private static void written() {
        TermReader x = new TermReader();
        Due.same("written(0)", x.written(0), -1);
        Due.same("written(-1)", x.written(-1), -1);
        Due.reads(x, "abc.", "abc");
        Due.reads(x, "d.", "d");
        Due.same("write(0)", Due.write(x, 0), "abc");
        Due.same("written(2)", x.written(2), (int) 'c');
        Due.same("written(3)", x.written(3), -1);
        Due.same("written(-1)", x.written(-1), -1);
        Due.same("the greatest int", x.written(Integer.MAX_VALUE), -1);
        Due.same("the least int", x.written(Integer.MIN_VALUE), -1);
        Due.same("write(1)", Due.write(x, 1), "d");
        Due.same("written(1)", x.written(1), -1);
        x.again();
        Due.read(x);
        Due.same("written(0)", x.written(0), (int) 'd');
    }

    private static void again() {
        TermReader x = new TermReader();
        Due.same("again() with nothing written", x.again(), true);
        Due.same("count(0)", x.count(0), 3);
        Due.same("read()", Due.read(x), "throws IllegalArgumentException");
        Due.reads(x, "a=b.", "a = b");
        Due.put(x, "what was there is gone");
        Due.same("again()", x.again(), true);
        Due.same("count(0)", x.count(0), 8);
        Due.put(x, "c.");
        Due.same("read()", Due.read(x), "1");
        Due.same("alike(0, 1)", x.alike(0, 1), true);
        Due.same("count(0)", x.count(0), 3);
        Due.same("read()", Due.read(x), "2");
        Due.same("write(2)", Due.write(x, 2), "c");
    }

    private static void longest() {
        TermReader x = new TermReader();
        String full = "f(" + Due.repeat("a", 24) + "," + Due.repeat("b", 24) + "," + Due.repeat("c", 24) + "," + Due.repeat("d", 24);
        Due.reads(x, full + "," + Due.repeat("e", 13) + ").", full + "," + Due.repeat("e", 13) + ")");
        Due.same("count of 117 characters", x.write(0), 116);
        Due.same("again()", x.again(), true);
        Due.same("count(0)", x.count(0), 119);
        Due.read(x);
        Due.reads(x, full + "," + Due.repeat("e", 14) + ").", full + "," + Due.repeat("e", 14) + ")");
        Due.same("again() of 117 and 3", x.again(), true);
        Due.same("count(0)", x.count(0), 120);
        Due.same("read()", Due.read(x), "3");
        Due.same("alike(2, 3)", x.alike(2, 3), true);
        Due.put(x, "!");
        Due.same("count(0)", x.count(0), 2);
        Due.read(x);
        Due.reads(x, full + "," + Due.repeat("e", 15) + ").", full + "," + Due.repeat("e", 15) + ")");
        Due.put(x, "kept.");
        Due.same("again() of 118 and 3", x.again(), false);
        Due.same("count(0)", x.count(0), 5);
        Due.reads(x, " ", "kept");
        TermReader y = new TermReader();
        String strings = Due.repeat("\"~~~~~~~~~~~~\",", 5) + "\"~~~~~~~~~~~~\"";
        String lists = Due.repeat("[" + Due.repeat("126,", 11) + "126],", 5) + "[" + Due.repeat("126,", 11) + "126]";
        Due.reads(y, "f(" + strings + ").", "f(" + lists + ")");
        Due.same("again()", y.again(), false);
    }
}
