/** Promise 4: tokens, first parts, operators and the limits of read(). */
public final class ReadTest {
    private static final String WRONG = "throws IllegalArgumentException";

    public static void main(String[] args) {
        layout();
        names();
        quotedNames();
        variables();
        integers();
        strings();
        compounds();
        listsAndBraces();
        prefixes();
        infixes();
        depths();
        whatIsLeft();
        mostTerms();
        mostNames();
        mostParts();
        Due.close();
    }

    private static void layout() {
        Due.reads("  a  .", "a");
        Due.reads("/* x */a/**/./* y", WRONG);
        Due.reads("/***/ a /* . */ .", "a");
        Due.isError("/*/ a.");
        Due.isError("a /* b.");
        Due.isError("a % .");
        Due.reads("a.% b", "a");
        Due.reads("f(a/*,b*/).", "f(a)");
        Due.reads("=/*.", WRONG);
        Due.reads("=/* .", "=/*");
        Due.isError("a ` b.");
        Due.isError("`.");
        Due.isError("");
        Due.isError("a");
        Due.isError(".");
        Due.isError(" . ");
    }

    private static void names() {
        Due.reads("aZ_09.", "aZ_09");
        Due.reads(Due.repeat("n", 24) + ".", Due.repeat("n", 24));
        Due.isError(Due.repeat("n", 25) + ".");
        Due.reads(Due.repeat("@", 24) + " .", Due.repeat("@", 24));
        Due.isError(Due.repeat("@", 25) + " .");
        Due.reads("+-*/\\^<>=~:.?@#&$ .", "+-*/\\^<>=~:.?@#&$");
        Due.isError("@.");
        Due.reads("! .", "!");
        Due.reads("!.", "!");
        Due.reads(";.", ";");
        Due.isError("!!.");
        Due.reads("!;! .", "! ; !");
        Due.reads("[].", "[]");
        Due.reads("{}.", "{}");
        Due.isError("[ ].");
        Due.isError("{ }.");
        Due.reads("[](a).", "[](a)");
        Due.reads("!(a).", "!(a)");
        Due.reads(".(a,b).", "[a|b]");
        Due.reads(".(a).", "'.'(a)");
        Due.isError("1.5.");
        Due.isError("a.b.");
    }

    private static void quotedNames() {
        Due.reads("'a'.", "a");
        Due.reads("''.", "''");
        Due.reads("''''.", "'\\''");
        Due.reads("'\\n\\t\\\\\\''.", "'\\n\\t\\\\\\''");
        Due.isError("'\\r'.");
        Due.isError("'\\\"'.");
        Due.isError("'a.");
        Due.isError("'a\\");
        Due.reads("'a. % /* \" `'.", "'a. % /* \" `'");
        Due.reads("'" + Due.repeat("''", 24) + "'.", "'" + Due.repeat("\\'", 24) + "'");
        Due.isError("'" + Due.repeat("''", 25) + "'.");
        Due.reads("a '=' b.", "a = b");
        Due.reads("'\\\\+' a.", "\\+ a");
        Due.reads("'f'(a).", "f(a)");
        Due.isError("'f' (a).");
        Due.reads("'-'1.", "- 1");
        Due.reads("'.'(a,b).", "[a|b]");
        Due.reads("'[]'.", "[]");
        Due.reads("'{}'(a).", "{a}");
        Due.reads("[a|'[]'].", "[a]");
        Due.reads("','.", "','");
        Due.reads("','(a,b).", "a,b");
        Due.reads("a ',' b.", "a,b");
        Due.isError("f(a ',' b).");
    }

    private static void variables() {
        Due.reads("X.", "_0");
        Due.reads("f(X,Y,X,_y,Y).", "f(_0,_1,_0,_2,_1)");
        Due.reads("f(_,_,__,__).", "f(_0,_1,_2,_2)");
        Due.reads("f(_1,_0).", "f(_0,_1)");
        Due.reads("Xy=XY.", "_0 = _1");
        Due.reads("V" + Due.repeat("x", 23) + ".", "_0");
        Due.isError("V" + Due.repeat("x", 24) + ".");
        Due.isError("X(a).");
        TermReader x = new TermReader();
        Due.reads(x, "f(A,B).", "f(_0,_1)");
        Due.reads(x, "f(B).", "f(_0)");
    }

    private static void integers() {
        Due.reads("0.", "0");
        Due.reads("007.", "7");
        Due.reads("2147483647.", "2147483647");
        Due.isError("2147483648.");
        Due.isError("99999999999999999999999999.");
        Due.reads("00000000000000000000000000012.", "12");
        Due.reads("-2147483647.", "-2147483647");
        Due.isError("-2147483648.");
        Due.reads("-0.", "0");
        Due.reads("0x0.", "0");
        Due.reads("0x7fffffff.", "2147483647");
        Due.reads("0x000000000007fffffff.", "2147483647");
        Due.isError("0x80000000.");
        Due.isError("0xF.");
        Due.isError("0x.");
        Due.reads("0'a.", "97");
        Due.reads("0' .", "32");
        Due.isError("0'.");
        Due.reads("0'  .", "32");
        Due.reads("0'. .", "46");
        Due.reads("0'\".", "34");
        Due.isError("0''.");
        Due.isError("0'''.");
        Due.isError("0'\\.");
        Due.isError("0'\\n.");
        Due.isError("0'");
        Due.reads("-0'a - -0x1f.", "-97 - -31");
        Due.reads("1is 2.", "1 is 2");
        Due.reads("3-1.", "3 - 1");
        Due.reads("3 -1.", "3 - 1");
        Due.reads("- 1.", "- 1");
        Due.reads("-/**/1.", WRONG);
        Due.reads("- - 1.", "- - 1");
        Due.reads("- -1.", "- -1");
        Due.isError("--1.");
        Due.reads("-(1).", "- 1");
        Due.reads("-1^2.", "-1 ^ 2");
        Due.reads("- 1^2.", "- 1 ^ 2");
        Due.isError("1 2.");
        Due.isError("10'a'.");
        TermReader x = new TermReader();
        Due.op(x, 700, 0, "x");
        Due.reads(x, "0x 1.", "0 x 1");
        Due.reads(x, "0x1.", "1");
    }

    private static void strings() {
        Due.reads("\"\".", "[]");
        Due.reads("\"a b\".", "[97,32,98]");
        Due.reads("\"'%.\".", "[39,37,46]");
        Due.reads("f(\"" + Due.repeat("~", 12) + "\").", "f([" + Due.repeat("126,", 11) + "126])");
        Due.isError("\"" + Due.repeat("~", 13) + "\".");
        Due.isError("\"a\\n\".");
        Due.isError("\"a.");
        Due.isError("\"a\"\"b\".");
    }

    private static void compounds() {
        Due.reads("f(a,b,c,d,e,f).", "f(a,b,c,d,e,f)");
        Due.isError("f(a,b,c,d,e,f,g).");
        Due.isError("f().");
        Due.isError("f (a).");
        Due.isError("f(a.");
        Due.isError("f(a,).");
        Due.isError("f(,a).");
        Due.isError("f(a b).");
        Due.isError("f(a:-b).");
        Due.isError("f(a|b).");
        Due.isError("f(a].");
        Due.reads("f((a:-b)).", "f((a :- b))");
        Due.reads("f((a,b)).", "f((a,b))");
        Due.reads("f(:-,a=(:-)).", "f(:-,a = (:-))");
        Due.reads("f(:- , \\+ ,-).", "f(:-,\\+,-)");
        Due.reads("f(a;b,c->d).", WRONG);
        Due.reads("-(a,b).", "a - b");
        Due.reads("- (a,b).", "- (a,b)");
        Due.reads("-(a,b,c).", "-(a,b,c)");
        Due.reads("=(a).", "=(a)");
    }

    private static void listsAndBraces() {
        Due.reads("[a].", "[a]");
        Due.reads("[a,B|C].", "[a,_0|_1]");
        Due.reads("[a|[b|[c]]].", "[a,b,c]");
        Due.reads("[a|[b|c]].", "[a,b|c]");
        Due.reads("[a=b,- 1|(:-)].", "[a = b,- 1|:-]");
        Due.reads("[(a,b),(a:-b)|(c,d)].", "[(a,b),(a :- b)|(c,d)]");
        Due.reads("[[],[[]],{}].", "[[],[[]],{}]");
        Due.isError("[a|b|c].");
        Due.isError("[a|b,c].");
        Due.isError("[|a].");
        Due.isError("[a|].");
        Due.isError("[a,].");
        Due.isError("[,].");
        Due.isError("[a.");
        Due.isError("[a).");
        Due.isError("[a:-b].");
        Due.reads("{a}.", "{a}");
        Due.reads("{a:-b,c}.", "{a :- b,c}");
        Due.reads("{}(a).", "{a}");
        Due.reads("{}(a,b).", "{}(a,b)");
        Due.reads("{-}.", "{-}");
        Due.isError("{a.");
        Due.isError("{a].");
        Due.isError("(a].");
        Due.isError("().");
        Due.reads("(a).", "a");
        Due.reads("[" + Due.repeat("1,", 12) + "1].", "[" + Due.repeat("1,", 12) + "1]");
        Due.isError("[" + Due.repeat("1,", 13) + "1].");
        Due.reads("[" + Due.repeat("1,", 12) + "1|2].", "[" + Due.repeat("1,", 12) + "1|2]");
        Due.isError("[" + Due.repeat("1,", 13) + "1|2].");
    }

    private static void prefixes() {
        Due.reads("- .", "-");
        Due.reads("- - .", "- (-)");
        Due.reads("- = x.", "(-) = x");
        Due.reads("- =(x).", "- =(x)");
        Due.reads("- =(x,y).", "- (x = y)");
        Due.isError("- '=' (x,y) z.");
        Due.reads("- (=).", "- (=)");
        Due.isError("- =.");
        Due.reads("- [].", "- []");
        Due.reads("- {a}.", "- {a}");
        Due.reads("- \"a\".", "- [97]");
        Due.reads("- X.", "- _0");
        Due.isError("a = \\+ b.");
        Due.reads("a = \\+ .", "a = (\\+)");
        Due.reads("\\+ = a.", "(\\+) = a");
        Due.isError("- :- a.");
        Due.reads(":- - a.", ":- - a");
        Due.isError("- ',' .");
        Due.reads("- (',').", "- (',')");
        Due.reads("- ','(a).", "- ','(a)");
        TermReader x = new TermReader();
        Due.op(x, 200, 5, "up");
        Due.op(x, 700, 4, "p");
        Due.reads(x, "p up.", "(p) up");
        Due.reads(x, "p a up.", "p a up");
        Due.reads(x, "p up(a).", "p a up");
        Due.reads(x, "a = p.", "a = (p)");
        Due.reads(x, "a = p b.", WRONG);
        Due.reads(x, "p = b.", "(p) = b");
        Due.reads(x, "p (=).", "p (=)");
        Due.reads(x, "p(=).", "p (=)");
        Due.reads(x, "p - 1.", "p - 1");
        Due.reads(x, "p -(1).", "p - 1");
        Due.reads(x, "p -1.", "p -1");
        Due.reads(x, "(p a) = b.", "(p a) = b");
        Due.reads(x, "p a = b.", WRONG);
    }

    private static void infixes() {
        Due.isError("a =.");
        Due.isError("a = .");
        Due.isError("(a =).");
        Due.isError("1 = = 2.");
        Due.reads("= = = .", "(=) = (=)");
        Due.isError("a b.");
        Due.isError("a b c.");
        Due.reads("a =(b).", "a = b");
        Due.reads("a:-b,c;d->e.", "a :- b,c ; d -> e");
        Due.isError(",a.");
        Due.isError("a,.");
        Due.isError("a | b.");
        Due.reads("[-|a].", "[-|a]");
        Due.reads("(a:-b):-c.", "(a :- b) :- c");
        TermReader x = new TermReader();
        Due.op(x, 1, 0, "q");
        Due.op(x, 1, 5, "r");
        Due.reads(x, "a q b.", "a q b");
        Due.reads(x, "a r.", "a r");
        Due.reads(x, "a r q b.", WRONG);
        Due.reads(x, "a r r.", WRONG);
        Due.reads(x, "(a r)q b r.", WRONG);
        Due.reads(x, "(a r)q(b r).", "(a r) q (b r)");
        Due.reads(x, "a r=b r.", "a r = b r");
    }

    private static void depths() {
        // Ten brackets lie in the whole, each in the one around it.
        Due.reads(Due.repeat("(", 10) + "a" + Due.repeat(")", 10) + ".", "a");
        Due.isError(Due.repeat("(", 11) + "a" + Due.repeat(")", 11) + ".");
        Due.reads(Due.repeat("f(", 10) + "a" + Due.repeat(")", 10) + ".", Due.repeat("f(", 10) + "a" + Due.repeat(")", 10));
        Due.isError(Due.repeat("f(", 11) + "a" + Due.repeat(")", 11) + ".");
        Due.reads(Due.repeat("{", 10) + "a" + Due.repeat("}", 10) + ".", Due.repeat("{", 10) + "a" + Due.repeat("}", 10));
        Due.isError(Due.repeat("{", 11) + "a" + Due.repeat("}", 11) + ".");
        Due.reads(Due.repeat("- ", 10) + "a.", Due.repeat("- ", 10) + "a");
        Due.isError(Due.repeat("- ", 11) + "a.");
        Due.reads(Due.repeat("a,", 10) + "a.", Due.repeat("a,", 10) + "a");
        Due.isError(Due.repeat("a,", 11) + "a.");
        // On the left no term lies in another one: the depth of the term is the limit.
        Due.reads("a" + Due.repeat("+a", 13) + ".", "a" + Due.repeat(" + a", 13));
        Due.isError("a" + Due.repeat("+a", 14) + ".");
        Due.reads("f(f(\"" + Due.repeat("a", 11) + "\")).", "f(f([" + Due.repeat("97,", 10) + "97]))");
        Due.isError("f(f(\"" + Due.repeat("a", 12) + "\")).");
        TermReader x = new TermReader();
        Due.op(x, 200, 6, "u");
        Due.reads(x, "a" + Due.repeat(" u", 13) + ".", "a" + Due.repeat(" u", 13));
        Due.reads(x, "a" + Due.repeat(" u", 14) + ".", WRONG);
    }

    private static void whatIsLeft() {
        TermReader x = new TermReader();
        Due.put(x, "a. b.%c");
        Due.same("read()", Due.read(x), "0");
        Due.same("count(0)", x.count(0), 5);
        Due.same("read()", Due.read(x), "1");
        Due.same("count(0)", x.count(0), 2);
        Due.same("read()", Due.read(x), WRONG);
        Due.same("count(0)", x.count(0), 0);
        Due.put(x, "a b. c.");
        Due.same("read()", Due.read(x), WRONG);
        Due.same("count(0)", x.count(0), 0);
        Due.put(x, "c. \"`");
        Due.same("what stands behind the end is not looked at", Due.read(x), "2");
        Due.same("count(0)", x.count(0), 3);
        Due.same("count(1)", x.count(1), 3);
        Due.same("count(2)", x.count(2), 3);
        Due.same("write(1)", Due.write(x, 1), "b");
    }

    private static void mostTerms() {
        TermReader x = new TermReader();
        for (int i = 0; i < 40; i++) {
            Due.put(x, "t" + i + ".");
            Due.same("read()", Due.read(x), String.valueOf(i));
        }
        Due.put(x, "a. b");
        Due.same("the 41st", Due.read(x), "throws IndexOutOfBoundsException");
        Due.same("count(0)", x.count(0), 4);
        Due.same("count(1)", x.count(1), 40);
        Due.same("count(2)", x.count(2), 40);
        Due.put(x, " b.");
        Due.same("the first term of the text is read", Due.read(x), "throws IndexOutOfBoundsException");
        Due.same("count(0)", x.count(0), 7);
        Due.same("again()", x.again(), true);
        Due.same("an error goes first", Due.read(x), WRONG);
        Due.same("count(0)", x.count(0), 0);
        Due.same("write(39)", Due.write(x, 39), "t39");
        Due.same("write(0)", Due.write(x, 0), "t0");
    }

    /** The names of 40 terms that fill the text are all kept. */
    private static void mostNames() {
        TermReader x = new TermReader();
        String full = "'a b'(" + Due.repeat("a", 24) + "," + Due.repeat("b", 24) + "," + Due.repeat("c", 24) + ","
            + Due.repeat("d", 24) + "," + Due.repeat("e", 10) + ")";
        Due.reads(x, full + ".", full);
        for (int i = 1; i < 40; i++) {
            Due.same("again()", x.again(), true);
            Due.same("count(0)", x.count(0), 120);
            Due.same("read()", Due.read(x), String.valueOf(i));
        }
        Due.same("again()", x.again(), true);
        Due.same("the 41st", Due.read(x), "throws IndexOutOfBoundsException");
        Due.same("count(0)", x.count(0), 120);
        for (int i = 0; i < 40; i++) {
            Due.same("alike", x.alike(0, i), true);
            Due.same("write", Due.write(x, i), full);
        }
    }

    private static void mostParts() {
        TermReader x = new TermReader();
        String six = "f(" + Due.repeat("\"abcdefghijkl\",", 5) + "\"abcdefghijkl\").";
        for (int i = 1; i <= 3; i++) {
            Due.put(x, six);
            Due.same("read()", Due.read(x), String.valueOf(i - 1));
            Due.same("count(2)", x.count(2), 151 * i);
        }
        Due.put(x, six);
        Due.same("604 parts", Due.read(x), "throws IndexOutOfBoundsException");
        Due.same("count(0)", x.count(0), six.length());
        Due.same("count(2)", x.count(2), 453);
        Due.same("the same again", Due.read(x), "throws IndexOutOfBoundsException");
        Due.put(x, "`");
        // What stands behind the END is no part of it.
        Due.same("with no blank behind the . it is no END", Due.read(x), WRONG);
        Due.put(x, "f(" + Due.repeat("\"abcdefghijkl\",", 5) + "\"abcdefghij\").");
        Due.same("600 parts", Due.read(x), "3");
        Due.same("count(2)", x.count(2), 600);
        Due.put(x, "a.");
        Due.same("601 parts", Due.read(x), "throws IndexOutOfBoundsException");
        Due.same("count(0)", x.count(0), 2);
        Due.same("alike(0, 2)", x.alike(0, 2), true);
        Due.same("alike(0, 3)", x.alike(0, 3), false);
    }
}
