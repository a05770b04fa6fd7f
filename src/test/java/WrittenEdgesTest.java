/** The edges of how a term is written, sentence by sentence. */
public final class WrittenEdgesTest {
    public static void main(String[] args) {
        integersAndVariables();
        names();
        listsAndBraces();
        operators();
        atomsThatAreOperators();
        aheadOfTheName();
        prefixBeforePostfix();
        others();
        deepest();
        Due.close();
    }

    private static void integersAndVariables() {
        Due.says("an integer in digits, with - before it if negative");
        for (String n : new String[] {"0", "1", "9", "10", "99", "100", "999999999", "1000000000", "2147483647"}) {
            Due.reads(n + ".", n);
            Due.reads("-" + n + ".", n.equals("0") ? "0" : "-" + n);
        }
        Due.says("a variable as _ and its number");
        Due.reads("A.", "_0");
        Due.reads("f(g(A,B,C,D,E,F),g(G,H,I,J,K,L),A,L).", "f(g(_0,_1,_2,_3,_4,_5),g(_6,_7,_8,_9,_10,_11),_0,_11)");
        // The most that the text has room for.
        String six = Due.repeat("_,", 5) + "_";
        String most = "f(" + Due.repeat("g(" + six + "),", 5) + "g(" + six + "))";
        TermReader x = new TermReader();
        Due.put(x, most + ".");
        Due.same(most, Due.read(x), "0");
        StringBuilder due = new StringBuilder("f(");
        for (int i = 0; i < 36; i++) {
            due.append(i % 6 == 0 ? i == 0 ? "g(" : "),g(" : ",").append('_').append(i);
        }
        Due.same(most, Due.write(x, 0), due + "))");
    }

    private static void names() {
        Due.says("an atom's name as it is if it is one of the names without quotes");
        for (String name : new String[] {"a", "z", "aZ_09", "!", ";", "[]", "{}", "+", "..", ".+", "/", "*", "*/", "//*", "+/*", "#"}) {
            shown(name, name);
        }
        shown("\\", "\\");
        Due.says("(but a row of signs that is a single . or begins with / and * is not)");
        for (String name : new String[] {".", "/*", "/**", "/*/", "/*.", "/**/"}) {
            shown(name, "'" + name + "'");
        }
        Due.says("else in quotes, with \\n, \\t, \\\\ and \\' where needed");
        for (char c : Due.characters().toCharArray()) {
            boolean plain = c >= 'a' && c <= 'z' || "!;+-*/\\^<>=~:?@#&$".indexOf(c) >= 0;
            String escaped = c == '\'' ? "\\'" : c == '\\' ? "\\\\" : "" + c;
            shown("" + c, plain ? "" + c : "'" + escaped + "'");
            boolean word = c >= 'a' && c <= 'z' || c >= 'A' && c <= 'Z' || c >= '0' && c <= '9' || c == '_';
            shown("a" + c, word ? "a" + c : "'a" + escaped + "'");
            boolean sign = "+-*/\\^<>=~:.?@#&$".indexOf(c) >= 0;
            shown("+" + c, sign ? "+" + c : "'+" + escaped + "'");
            shown("A" + c, "'A" + escaped + "'");
            shown("!" + c, "'!" + escaped + "'");
            shown("[" + c, c == ']' ? "[]" : "'[" + escaped + "'");
            shown("{" + c, c == '}' ? "{}" : "'{" + escaped + "'");
            shown("[]" + c, "'[]" + escaped + "'");
        }
        shown("", "''");
        shown("\n", "'\\n'");
        shown("\t", "'\\t'");
        shown("a\nb\t'\\", "'a\\nb\\t\\'\\\\'");
        shown(Due.repeat("'", 24), "'" + Due.repeat("\\'", 24) + "'");
        shown(Due.repeat("a", 24), Due.repeat("a", 24));
    }

    /** A name, as an atom and as a compound one's (with so many arguments that it is written by no operator). */
    private static void shown(String name, String want) {
        String quoted = "'" + name.replace("\\", "\\\\").replace("'", "''").replace("\n", "\\n").replace("\t", "\\t") + "'";
        Due.reads(quoted + ".", want);
        Due.reads(quoted + "(a,b,c).", want + "(a,b,c)");
    }

    private static void listsAndBraces() {
        Due.says("a list [a,b|c], without |c if it ends with []");
        Due.reads("'.'(a,'.'(b,c)).", "[a,b|c]");
        Due.reads("'.'(a,'.'(b,[])).", "[a,b]");
        Due.reads("[[]|[]].", "[[]]");
        Due.reads("[a|[](b)].", "[a|[](b)]");
        Due.reads("[a|'.'(b)].", "[a|'.'(b)]");
        Due.reads("[a|'.'(b,c,d)].", "[a|'.'(b,c,d)]");
        Due.reads("[a|{}].", "[a|{}]");
        Due.reads("[a|[]+1].", "[a|[] + 1]");
        Due.says("{}(a) as {a}");
        Due.reads("{}(a).", "{a}");
        Due.reads("{}(a,b).", "{}(a,b)");
        Due.reads("{}({}).", "{{}}");
        Due.reads("{}((a,b)).", "{a,b}");
        Due.says("999 for arguments of names and of lists, 1200 within { }");
        Due.reads("{}((a:-b)).", "{a :- b}");
        Due.reads("f((a:-b),(a,b),(\\+a)).", "f((a :- b),(a,b),\\+ a)");
        Due.reads("[(a,b),(\\+a)|(a,b)].", "[(a,b),\\+ a|(a,b)]");
    }

    private static void operators() {
        Due.says("its name, a blank, the argument; the argument, a blank, the name; the left one, a blank, the name, a blank, "
            + "the right one, but for , without the blanks");
        TermReader x = new TermReader();
        Due.op(x, 300, 6, "up");
        Due.reads(x, "\\+(a).", "\\+ a");
        Due.reads(x, "up(a).", "a up");
        Due.reads(x, "is(a,b).", "a is b");
        Due.reads(x, "','(a,b).", "a,b");
        Due.reads(x, "-(a,b,c).", "-(a,b,c)");
        Due.reads(x, "up(a,b).", "up(a,b)");
        Due.reads(x, "is(a).", "is(a)");
        Due.reads(x, "\\+(a,b).", "\\+(a,b)");
        Due.reads(x, "','(a).", "','(a)");
        Due.reads(x, "','(a,b,c).", "','(a,b,c)");
        Due.says("all of these in brackets if their priority is above that of the place");
        Due.reads(x, "a= -(b,c).", "a = b - c");
        Due.reads(x, "=(=(a,b),=(c,d)).", "(a = b) = (c = d)");
        Due.reads(x, "-(a,-(b,c)).", "a - (b - c)");
        Due.reads(x, "-(-(a,b),c).", "a - b - c");
        Due.reads(x, "^(^(a,b),^(c,d)).", "(a ^ b) ^ c ^ d");
        Due.reads(x, "','(','(a,b),','(c,d)).", "(a,b),c,d");
        Due.reads(x, ":-(:-(a),:-(b)).", "(:- a) :- (:- b)");
        Due.reads(x, "-(-(-(1))).", "- - - 1");
        Due.reads(x, "-(a+b)-c.", "- (a + b) - c");
        Due.reads(x, "up(up(- a)).", "- a up up");
    }

    private static void atomsThatAreOperators() {
        Due.says("an argument of an operator that is an atom that is an operator (or ,) is in brackets");
        TermReader x = new TermReader();
        Due.op(x, 300, 6, "up");
        for (String name : new String[] {":-", ";", "\\+", "is", "+", "-", "up", "','"}) {
            Due.reads(x, "\\+((" + name + ")).", "\\+ (" + name + ")");
            Due.reads(x, "up((" + name + ")).", "(" + name + ") up");
            Due.reads(x, "=((" + name + "),(" + name + ")).", "(" + name + ") = (" + name + ")");
            Due.reads(x, "','((" + name + "),(" + name + ")).", "(" + name + "),(" + name + ")");
        }
        x = new TermReader();
        for (String name : new String[] {"a", "!", "[]", "{}", "'A'", "''", "'|'", "':- '"}) {
            Due.reads(x, "\\+ " + name + ".", "\\+ " + name);
            Due.reads(x, name + "=" + name + " .", name + " = " + name);
        }
        // An argument of a name, of a list or of { } is none of an operator.
        Due.reads(x, "f(:-,;,\\+,is,+,-).", "f(:-,;,\\+,is,+,-)");
        Due.reads(x, "[-,','|+].", "[-,','|+]");
        Due.reads(x, "{-}.", "{-}");
        Due.reads(x, "(-).", "-");
        Due.reads(x, "','.", "','");
    }

    private static void aheadOfTheName() {
        Due.says("so is one ahead of its name that is written by an xfy or fy operator of the same priority");
        String[] inner = {"a xfx b", "a xfy b", "a yfx b", "fy a", "fx a", "a xf", "a yf"};
        String[] types = {"xfx", "xfy", "yfx", "fy", "fx", "xf", "yf"};
        for (int p = 299; p <= 301; p++) {
            for (int type = 0; type < 7; type++) {
                for (String outer : new String[] {"yf", "yfx"}) {
                    TermReader x = new TermReader();
                    Due.op(x, 300, outer.equals("yf") ? 6 : 2, "o");
                    Due.op(x, p, type, types[type]);
                    boolean brackets = p > 300 || p == 300 && (type == 1 || type == 3);
                    String left = brackets ? "(" + inner[type] + ")" : inner[type];
                    String behind = outer.equals("yf") ? " o" : " o c";
                    Due.reads(x, "(" + inner[type] + ")" + behind + ".", left + behind);
                    x.again();
                    Due.same(left + behind + " again", Due.read(x), "1");
                    Due.same(left + behind + " alike", x.alike(0, 1), true);
                }
            }
        }
        // Behind its name none is bracketed for that.
        TermReader x = new TermReader();
        Due.op(x, 200, 3, "fy");
        Due.reads(x, "a^(b^c).", "a ^ b ^ c");
        Due.reads(x, "a^(fy b).", "a ^ fy b");
        Due.reads(x, "fy(a^b).", "fy a ^ b");
    }

    private static void prefixBeforePostfix() {
        Due.says("Prefix goes before postfix");
        TermReader x = new TermReader();
        Due.op(x, 300, 5, "o");
        Due.reads(x, "a o.", "a o");
        Due.op(x, 400, 3, "o");
        Due.same("write(0)", Due.write(x, 0), "o a");
        Due.reads(x, "(a o)+b.", "o a + b");
        Due.reads(x, "(a o)^b.", "(o a) ^ b");
        Due.op(x, 0, 3, "o");
        Due.same("write(0)", Due.write(x, 0), "a o");
        Due.same("write(2)", Due.write(x, 2), "(a o) ^ b");
        Due.op(x, 0, 6, "o");
        Due.same("write(0)", Due.write(x, 0), "o(a)");
    }

    private static void others() {
        Due.says("Other compound ones: name(a,b)");
        Due.reads("f( a , b ).", "f(a,b)");
        Due.reads("'F'('A').", "'F'('A')");
        Due.reads("[](a).", "[](a)");
        Due.reads("!(a,b).", "!(a,b)");
        Due.reads("'.'(a).", "'.'(a)");
        Due.reads("'/*'(a).", "'/*'(a)");
        Due.reads("a(a,a,a,a,a,a).", "a(a,a,a,a,a,a)");
    }

    private static void deepest() {
        Due.says("A term is at most 14 deep");
        String sum = "a" + Due.repeat("+a", 13);
        Due.reads(sum + ".", sum.replace("+", " + "));
        Due.reads("[" + Due.repeat("1,", 12) + "b].", "[" + Due.repeat("1,", 12) + "b]");
        Due.reads("[" + Due.repeat("1,", 12) + "b|c].", "[" + Due.repeat("1,", 12) + "b|c]");
        Due.says("(if its brackets do not make it too deep, or it is too long, to be read)");
        TermReader x = new TermReader();
        Due.op(x, 300, 2, "o");
        Due.reads(x, "a" + Due.repeat(" o a", 13) + ".", "a" + Due.repeat(" o a", 13));
        Due.op(x, 300, 1, "o");
        String deep = Due.repeat("(", 12) + "a" + Due.repeat(" o a)", 12) + " o a";
        Due.same("write(0)", Due.write(x, 0), deep);
        Due.same("again()", x.again(), true);
        Due.same("read()", Due.read(x), "throws IllegalArgumentException");
    }
}
