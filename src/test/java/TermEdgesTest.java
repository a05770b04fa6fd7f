/** The edges of how a term is read, sentence by sentence. */
public final class TermEdgesTest {
    private static final String WRONG = "throws IllegalArgumentException";

    public static void main(String[] args) {
        arguments();
        depth();
        negatives();
        variables();
        brackets();
        listsAndBraces();
        places();
        prefixes();
        prefixBeforeOthers();
        prefixPriority();
        infixes();
        postfixes();
        levels();
        Due.close();
    }

    private static void arguments() {
        Due.says("COMPOUND ones: a name and 1 to 6 ARGUMENTS");
        for (String name : new String[] {"f", "+", "-", "'a b'", "!", ";", "[]", "{}", "','", "''"}) {
            Due.isError(name + "().");
            Due.isError(name + "( ).");
            for (int n = 1; n <= 6; n++) {
                Due.looks(name + "(" + Due.repeat("a,", n - 1) + "a).", "3 " + n + " " + name.replaceAll("'", "").length());
            }
            Due.isError(name + "(a,a,a,a,a,a,a).");
        }
        Due.says("a name with ( directly behind it, terms up to 999 with , between, and )");
        for (String text : new String[] {"f (a).", "f/**/(a).", "f(a", "f(a.", "f(a,).", "f(,a).", "f(,).", "f(a,,b).", "f(a b).",
            "f(a|b).", "f(a].", "f(a}.", "f(a)).", "X(a).", "1(a).", "\"\"(a).", "f(a)(b).", "(f)(a)."}) {
            Due.isError(text);
        }
    }

    private static void depth() {
        Due.says("A term is at most 14 deep (as look() tells it; more is an error)");
        deepest("a", "+a", "");
        TermReader x = new TermReader();
        Due.op(x, 300, 6, "u");
        Due.reads(x, "a" + Due.repeat(" u", 13) + ".", "a" + Due.repeat(" u", 13));
        Due.same("look(0, 3)", x.look(0, 3), 14);
        Due.isError(x, "a" + Due.repeat(" u", 14) + ".");
        Due.same("count(1)", x.count(1), 1);
        deepest("[1", ",1", "]");
        // A string of twelve is 13 deep: in anything it is 14 deep, in two it is too deep.
        String s = "\"abcdefghijkl\"";
        for (String[] around : new String[][] {{"f(", ")"}, {"f(a,", ",b)"}, {"- ", ""}, {"a^", ""}, {"{", "}"}, {"[", "]"},
            {"[a,", "]"}, {"[a|", "]"}, {"(", ")=a"}}) {
            String once = around[0] + s + around[1];
            int more = around[0].equals("[a,") ? 2 : 1;
            depthOf(once, 13 + more);
            depthOf(around[0] + once + around[1], 13 + 2 * more);
        }
        // Brackets make a term no deeper.
        depthOf("(" + s + ")", 13);
        depthOf("((" + s + ")+a)", 14);
    }

    private static void deepest(String first, String more, String last) {
        for (int n = 11; n <= 15; n++) {
            int listEnd = last.isEmpty() ? 0 : 1;
            depthOf(first + Due.repeat(more, n) + last, n + 1 + listEnd);
        }
    }

    private static void depthOf(String text, int depth) {
        TermReader x = new TermReader();
        Due.put(x, text + ".");
        Due.same(text, Due.read(x), depth > 14 ? WRONG : "0");
        Due.same(text + ": look(0, 3)", Due.answer(() -> x.look(0, 3)),
            depth > 14 ? "throws IndexOutOfBoundsException" : String.valueOf(depth));
        Due.same(text + ": count(2)", x.count(2) == 0, depth > 14);
    }

    private static void negatives() {
        Due.says("- (not in quotes) with an integer directly behind it (no layout between): that, negative");
        Due.looks("-1.", "1 0 -1");
        Due.looks("-0.", "1 0 0");
        Due.looks("-0x1f.", "1 0 -31");
        Due.looks("-0'a.", "1 0 -97");
        Due.looks("- 1.", "3 1 1");
        Due.looks("'-'1.", "3 1 1");
        Due.looks("-(1).", "3 1 1");
        Due.looks("-X.", "3 1 1");
        Due.looks("- -1.", "3 1 1");
        Due.isError("-/**/1.");
        Due.isError("--1.");
        Due.isError("\\-1.");
        Due.looks("-1-1.", "3 2 1");
        Due.reads("1 -1.", "1 - 1");
        Due.reads("1-1.", "1 - 1");
        Due.reads("1- -1.", "1 - -1");
        Due.reads("[-1,-1|-1].", "[-1,-1|-1]");
        TermReader x = new TermReader();
        Due.op(x, 0, 3, "-");
        Due.reads(x, "-1.", "-1");
        Due.isError(x, "- 1.");
        Due.op(x, 0, 2, "-");
        Due.reads(x, "f(-1).", "f(-1)");
        Due.isError(x, "1 -1.");
    }

    private static void variables() {
        Due.says("the same name in one reading is the same variable, _ always a new one");
        Due.reads("f(A,B,A,_,_,B).", "f(_0,_1,_0,_2,_3,_1)");
        Due.reads("f(_,__,_,__,_a,_a).", "f(_0,_1,_2,_1,_3,_3)");
        Due.reads("f(Ab,AB,A,Ab).", "f(_0,_1,_2,_0)");
        TermReader x = new TermReader();
        Due.reads(x, "f(A,B).", "f(_0,_1)");
        Due.reads(x, "f(B,A).", "f(_0,_1)");
        Due.isError(x, "f(C,B)");
        Due.reads(x, "f(B,C,B).", "f(_0,_1,_0)");
    }

    private static void brackets() {
        Due.says("( a term up to 1200 ), with priority 0");
        Due.reads("(a).", "a");
        Due.reads("(a:-b).", "a :- b");
        Due.reads("(a:-b)^(:-c).", "(a :- b) ^ (:- c)");
        Due.reads("- (a:-b).", "- (a :- b)");
        Due.reads("(-).", "-");
        for (String text : new String[] {"().", "(a.", "(a", "a).", "(a)).", "((a).", "(a].", "(a}.", "(a b).", "(a)(b).", "(a|b)."}) {
            Due.isError(text);
        }
    }

    private static void listsAndBraces() {
        Due.says("[ terms up to 999 with , between, and perhaps | and a term up to 999 ]");
        Due.reads("[a].", "[a]");
        Due.reads("[a|b].", "[a|b]");
        Due.reads("[a,b|[]].", "[a,b]");
        Due.reads("[a|[b]].", "[a,b]");
        Due.looks("[a].", "3 2 1");
        Due.reads("'.'(a,'[]').", "[a]");
        for (String text : new String[] {"[.", "[a", "[a.", "[,].", "[a,].", "[,a].", "[a,,b].", "[|].", "[|a].", "[a|].", "[a|b|c].",
            "[a|b,c].", "[a b].", "[a).", "[a}.", "[a]].", "[a||b]."}) {
            Due.isError(text);
        }
        Due.says("a string is a list of its characters' codes that ends with []");
        Due.reads("\"\".", "[]");
        Due.reads("[a|\"b\"].", "[a,98]");
        Due.reads("f(\"\",\"a\").", "f([],[97])");
        Due.says("{ a term up to 1200 } is {}(that)");
        Due.looks("{a}.", "3 1 2");
        Due.reads("{a:-b,c}.", "{a :- b,c}");
        Due.reads("'{}'(a).", "{a}");
        for (String text : new String[] {"{.", "{a", "{a.", "{,}.", "{a,}.", "{a).", "{a].", "{a}}.", "{a b}.", "{a|b}."}) {
            Due.isError(text);
        }
    }

    /** A term of just the greatest priority, and one above, where a place is bounded. */
    private static void places() {
        for (int p : new int[] {998, 999, 1000, 1199, 1200}) {
            for (String inner : new String[] {"a i b", "pre a", "a post"}) {
                TermReader x = new TermReader();
                Due.op(x, p, 0, "i");
                Due.op(x, p, 4, "pre");
                Due.op(x, p, 5, "post");
                Due.says("terms up to 999");
                String bracketed = p > 999 ? "(" + inner + ")" : inner;
                for (String[] place : new String[][] {{"f(", ")"}, {"[", "]"}, {"[c|", "]"}, {"f(c,", ")"}, {"[c,", "]"}}) {
                    Due.reads(x, place[0] + inner + place[1] + ".", p > 999 ? WRONG : place[0] + inner + place[1]);
                    Due.reads(x, place[0] + "(" + inner + ")" + place[1] + ".", place[0] + bracketed + place[1]);
                }
                Due.says("a term up to 1200");
                Due.reads(x, inner + ".", inner);
                Due.reads(x, "(" + inner + ").", inner);
                Due.reads(x, "{" + inner + "}.", "{" + inner + "}");
            }
        }
    }

    private static void prefixes() {
        Due.says("a name that is a prefix operator, if its priority is not above m");
        TermReader x = new TermReader();
        Due.op(x, 699, 3, "p");
        Due.op(x, 700, 3, "q");
        Due.reads(x, "a = p b.", "a = p b");
        Due.isError(x, "a = q b.");
        Due.reads(x, "a = q.", "a = (q)");
        Due.reads(x, "a = q < b.", WRONG);
        Due.reads(x, "a = q + b.", "a = (q) + b");
        Due.says("A token BEGINS A TERM if it is no END, no ) ] } , |, and not the end of the text");
        Due.reads("- .", "-");
        Due.reads("(-).", "-");
        Due.reads("[-].", "[-]");
        Due.reads("{-}.", "{-}");
        Due.reads("f(-,a).", "f(-,a)");
        Due.reads("[-|a].", "[-|a]");
        Due.reads("-,a.", "(-),a");
        Due.isError("-");
        for (String begins : new String[] {"1", "X", "\"\"", "(a)", "[a]", "{a}", "a", "'A'", "[]", "{}", "!", "f(a)", "-1"}) {
            Due.looks("- " + begins + ".", "3 1 1");
        }
        Due.says("any other name: an atom");
        Due.isError("a b.");
        Due.isError("+ a.");
        Due.reads("+ .", "+");
    }

    private static void prefixBeforeOthers() {
        Due.says("and is not a name that is an infix or postfix operator and no prefix one");
        TermReader x = new TermReader();
        Due.op(x, 200, 5, "post");
        Due.op(x, 300, 3, "both");
        Due.op(x, 300, 5, "both");
        Due.isError(x, "- = .");
        Due.reads(x, "- = a.", "(-) = a");
        Due.reads(x, "- post.", "(-) post");
        Due.isError(x, "- post a.");
        Due.reads(x, "- '=' a.", "(-) = a");
        Due.reads(x, "- ',' a.", "(-),a");
        Due.reads(x, "- - .", "- (-)");
        Due.reads(x, "- - a.", "- - a");
        Due.reads(x, "- both.", "- (both)");
        Due.reads(x, "\\+ both a.", "\\+ both a");
        Due.says("(without a ( directly behind it, and not the - of an integer)");
        Due.reads(x, "- =(a).", "- =(a)");
        Due.reads(x, "- =(a,b).", "- (a = b)");
        Due.reads(x, "- = (a).", "(-) = a");
        Due.reads(x, "- post(a).", "- a post");
        Due.isError(x, "- post (a).");
        Due.op(x, 0, 3, "-");
        Due.reads(x, "\\+ -1.", "\\+ -1");
        Due.reads(x, "\\+ - 1.", "(\\+) - 1");
        Due.reads(x, "\\+ '-'1.", "(\\+) - 1");
        Due.reads(x, "\\+ -(1).", "\\+ -(1)");
        Due.reads(x, "\\+ - a.", "(\\+) - a");
    }

    private static void prefixPriority() {
        Due.says("with a term up to its argument's priority: compound, with the operator's priority");
        Due.isError(":- a:-b.");
        Due.reads("\\+ a,b.", "\\+ a,b");
        for (int p = 299; p <= 301; p++) {
            TermReader x = new TermReader();
            Due.op(x, p, 4, "pre");
            Due.op(x, 300, 0, "xfx");
            Due.op(x, 300, 2, "yfx");
            Due.op(x, 300, 5, "xf");
            Due.op(x, 300, 6, "yf");
            // Of 301 it takes all of that into its argument, of 300 it is a left one where the type has y.
            String whole = "1 argument, name of 3";
            Due.same("pre a xfx b", outermost(x, "pre a xfx b."), p == 300 ? WRONG : p == 301 ? whole : "2 argument, name of 3");
            Due.same("pre a yfx b", outermost(x, "pre a yfx b."), p == 301 ? whole : "2 argument, name of 3");
            Due.same("pre a xf", outermost(x, "pre a xf."), p == 300 ? WRONG : p == 301 ? whole : "1 argument, name of 2");
            Due.same("pre a yf", outermost(x, "pre a yf."), p == 301 ? whole : "1 argument, name of 2");
        }
    }

    /** Which operator is the outermost one of what a text reads as. */
    private static String outermost(TermReader x, String text) {
        Due.put(x, text);
        String t = Due.read(x);
        if (t.startsWith("throws")) {
            return t;
        }
        int last = Integer.parseInt(t);
        return x.look(last, 1) + " argument, name of " + x.look(last, 2);
    }

    private static void infixes() {
        Due.says("an infix operator whose priority p is not above m, l is not above its left argument's");
        Due.reads("a:-b;c.", "a :- b ; c");
        Due.isError("a:-b:-c.");
        Due.isError("f(a:-b).");
        Due.isError("a=b=c.");
        Due.reads("a+b+c.", "a + b + c");
        Due.reads("a^b^c.", "a ^ b ^ c");
        Due.reads("(a=b)=c.", "(a = b) = c");
        Due.says("and the token behind it begins a term");
        for (String text : new String[] {"a= .", "(a=).", "[a=].", "{a=}.", "f(a=,b).", "[a=|b].", "a=", "a,.", "(a,).", "{a,}."}) {
            Due.isError(text);
        }
        Due.reads("= .", "=");
        Due.reads("= = = .", "(=) = (=)");
        Due.isError("= = .");
        Due.says("the next token is a name or , that is an infix operator");
        Due.reads("a '=' b.", "a = b");
        Due.reads("a ',' b.", "a,b");
        Due.reads("a =(b).", "a = b");
        Due.reads("a -1.", "a - 1");
        Due.isError("a | b.");
        Due.isError("a X b.");
        Due.isError("a 1 b.");
    }

    private static void postfixes() {
        Due.says("if it is a postfix one with p not above m and l not above its argument's");
        TermReader x = new TermReader();
        Due.op(x, 699, 5, "p");
        Due.op(x, 700, 5, "q");
        Due.op(x, 701, 6, "r");
        Due.reads(x, "a = b p.", "a = b p");
        Due.isError(x, "a = b q.");
        Due.isError(x, "a p p.");
        Due.reads(x, "a p q.", "a p q");
        Due.isError(x, "a q p.");
        Due.reads(x, "a q r r.", "a q r r");
        Due.reads(x, "a = b r.", "a = b r");
        Due.reads(x, "r(a = b).", "a = b r");
        Due.reads(x, "a = (b r).", "a = (b r)");
        Due.reads(x, "p p.", "(p) p");
        Due.reads(x, "p.", "p");
        // A term may end with it before whatever begins none.
        Due.reads(x, "f(a p,[b p|c p],{d p},(e p)).", "f(a p,[b p|c p],{d p},e p)");
        Due.isError(x, "a p b.");
    }

    private static void levels() {
        Due.says("Terms may lie in terms at most 10 deep (each term that is read while another one is being read)");
        nested("(", ")");
        nested("[", "]");
        nested("{", "}");
        nested("f(", ")");
        nested("f(b,", ")");
        nested("[b|", "]");
        nested("- ", "");
        nested("b,", "");
        nested("b^", "");
        Due.reads("f([{(- b^f([{(c)}]))}]).", "f([{- b ^ f([{c}])}])");
        Due.isError("f([{(- b^f([{((c))}]))}]).");
        // What has been read lies in no other one as the left one.
        Due.reads(Due.repeat("(", 9) + "a" + Due.repeat("+b)", 9) + "+c+d+e+f.", "a" + Due.repeat(" + b", 9) + " + c + d + e + f");
        Due.isError(Due.repeat("(", 10) + "a" + Due.repeat("+b)", 10) + ".");
        Due.reads("f(" + Due.repeat("(", 9) + "a" + Due.repeat(")", 9) + "," + Due.repeat("(", 9) + "b" + Due.repeat(")", 9) + ").",
            "f(a,b)");
        TermReader x = new TermReader();
        Due.isError(x, Due.repeat("(", 59) + "a" + Due.repeat(")", 59) + ".");
        Due.same("count(0)", x.count(0), 0);
        Due.isError(x, Due.repeat("(", 120));
        Due.isError(x, Due.repeat("[", 120));
        Due.isError(x, Due.repeat("{", 120));
        Due.isError(x, Due.repeat("- ", 60));
        Due.isError(x, Due.repeat("a,", 60));
    }

    private static void nested(String open, String close) {
        for (int n = 9; n <= 12; n++) {
            String text = Due.repeat(open, n) + "a" + Due.repeat(close, n) + ".";
            TermReader x = new TermReader();
            Due.put(x, text);
            Due.same(text, Due.read(x), n > 10 ? WRONG : "0");
            Due.same(text + ": count(0)", x.count(0), 0);
            if (n <= 10) {
                Due.same(text + " written and read again", writtenAgain(x), true);
            }
        }
    }

    private static boolean writtenAgain(TermReader x) {
        x.write(0);
        x.again();
        return Due.read(x).equals("1") && x.alike(0, 1) && x.look(0, 3) == x.look(1, 3);
    }
}
