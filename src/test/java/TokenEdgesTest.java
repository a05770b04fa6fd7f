/** The edges of the tokens, sentence by sentence. */
public final class TokenEdgesTest {
    private static final String WRONG = "throws IllegalArgumentException";
    private static final String SIGNS = "+-*/\\^<>=~:.?@#&$";
    private static final String DIGITS = "0123456789";
    private static final String SMALL = "abcdefghijklmnopqrstuvwxyz";
    private static final String LARGE = "ABCDEFGHIJKLMNOPQRSTUVWXYZ";
    private static final String WORD = SMALL + LARGE + DIGITS + "_";

    public static void main(String[] args) {
        layout();
        noToken();
        rows();
        ends();
        namesWithoutQuotes();
        quotes();
        longestNames();
        longestVariables();
        greatestIntegers();
        hexadecimals();
        codes();
        strings();
        asLongAsCanBe();
        Due.close();
    }

    private static boolean in(String set, char c) {
        return set.indexOf(c) >= 0;
    }

    private static void layout() {
        Due.says("LAYOUT are blanks");
        Due.reads("a.", "a");
        Due.reads(" a.", "a");
        Due.reads(Due.repeat(" ", 117) + "a .", "a");
        Due.says("from % up to the end of the text");
        Due.isError("%a.");
        Due.isError("a % . ");
        Due.reads("a.%b", "a");
        Due.says("from / and * up to * and /");
        Due.reads("/**/a.", "a");
        Due.reads("/***/a.", "a");
        Due.reads("/* * / . % ' \" ` /* */a.", "a");
        Due.reads("a/**//**/ /* */.", "a");
        Due.isError("/* */ */a.");
        Due.says("without an end: an ERROR");
        for (String text : new String[] {"/*", "/*/", "/* ", "/* *", "/*/a.", "a/*.", "a /* * /. "}) {
            TermReader x = new TermReader();
            Due.isError(x, text);
            Due.same(text + ": count(0)", x.count(0), 0);
        }
    }

    private static void noToken() {
        Due.says("an ERROR, as is any character or row that is none of these");
        for (char c : Due.characters().toCharArray()) {
            boolean reads = in(WORD, c) || in("!;", c) || in(SIGNS, c) && c != '.';
            Due.same(c + " alone", Due.looks(c + " .").startsWith("throws"), !reads);
        }
        Due.isError("f(a,`).");
    }

    /** Each character between two of a row: it goes on just with what belongs to it. */
    private static void rows() {
        for (char c : Due.characters().toCharArray()) {
            Due.says("a letter a .. z and letters (of both kinds), digits and _ behind it");
            Due.same("a" + c + "b", Due.looks("a" + c + "b.").equals("2 0 3"), in(WORD, c));
            Due.says("a letter A .. Z or _ and letters, digits and _ behind it");
            Due.same("A" + c + "b", Due.looks("A" + c + "b.").equals("0 0 0"), in(WORD, c));
            Due.same("_" + c + "b", Due.looks("_" + c + "b.").equals("0 0 0"), in(WORD, c));
            Due.says("rows of the SIGNS");
            Due.same("+" + c + "+", Due.looks("+" + c + "+ .").equals("2 0 3"), in(SIGNS, c));
            Due.says("rows of digits");
            Due.same("1" + c + "1", Due.looks("1" + c + "1.").startsWith("1 "), in(DIGITS, c));
            Due.says("0x and digits 0 .. 9, a .. f");
            Due.same("0x1" + c + "1", Due.looks("0x1" + c + "1.").startsWith("1 "), in(DIGITS + "abcdef", c));
        }
    }

    private static void ends() {
        Due.says("a single . before a blank, % or the end of the text is an END");
        Due.reads("a.", "a");
        Due.isError("a");
        for (char c : Due.characters().toCharArray()) {
            TermReader x = new TermReader();
            Due.reads(x, "a." + c, c == ' ' || c == '%' ? "a" : WRONG);
            Due.same("a." + c + ": count(0)", x.count(0), c == ' ' || c == '%' ? 1 : 0);
        }
        Due.isError("a..");
        Due.isError("a+.");
        Due.isError("a.. ");
        Due.reads(".. .", "..");
        Due.reads("f(.,a).", "f('.',a)");
        Due.isError("f(. ,a).");
        Due.says("/ and * side by side begin layout, where a token can begin");
        Due.reads("+/* .", "+/*");
        Due.reads("//* .", "//*");
        Due.reads("./* .", "./*");
        Due.reads("*/ .", "*/");
        Due.reads("a/**/+b.", "a + b");
        Due.isError("a/*b.");
        Due.isError("/*+ .");
        Due.reads("f(/,*).", "f(/,*)");
    }

    private static void namesWithoutQuotes() {
        Due.says("! and ; alone");
        Due.looks("!.", "2 0 1");
        Due.looks(";.", "2 0 1");
        Due.isError("!!.");
        Due.isError("!a.");
        Due.reads("!;!.", "! ; !");
        Due.reads(";;;.", "(;) ; (;)");
        Due.isError(";;.");
        Due.says("[] and {} side by side");
        Due.looks("[].", "2 0 2");
        Due.looks("{}.", "2 0 2");
        for (String text : new String[] {"[ ].", "{ }.", "[/**/].", "{/**/}.", "[}.", "{].", "][.", "}{."}) {
            Due.isError(text);
        }
        Due.reads("[[]].", "[[]]");
        Due.reads("{{}}.", "{{}}");
    }

    private static void quotes() {
        for (char c : Due.characters().toCharArray()) {
            Due.says("in ' quotes any characters");
            if (c != '\'' && c != '\\') {
                Due.looks("'" + c + "'.", "2 0 1");
                Due.looks("'A" + c + "b'.", "2 0 3");
            }
            Due.says("no other ones behind \\");
            Due.looks("'\\" + c + "'.", in("nt\\'", c) ? "2 0 1" : WRONG);
        }
        Due.says("'' for one '");
        Due.looks("''''.", "2 0 1");
        Due.looks("'a''b'.", "2 0 3");
        Due.isError("'''.");
        Due.looks("'a'''.", "2 0 2");
        Due.isError("'a''.");
        Due.says("\\n, \\t, \\\\ and \\' for a line end, a tab, \\ and '");
        Due.reads("'\\n'.", "'\\n'");
        Due.reads("'\\t'.", "'\\t'");
        Due.reads("'\\\\'.", "\\");
        Due.reads("'\\''.", "'\\''");
        Due.reads("'\\\\\\\\+' = '\\\\'.", "\\\\+ = \\");
        Due.says("as is any character or row that is none of these");
        for (String text : new String[] {"'", "'a.", "'a. ", "'\\", "'\\'.", "'a\\'."}) {
            Due.isError(text);
        }
    }

    private static void longestNames() {
        Due.says("A name has at most 24 characters");
        for (String one : new String[] {"a", "+", "\\"}) {
            Due.looks(Due.repeat(one, 24) + " .", "2 0 24");
            Due.isError(Due.repeat(one, 25) + " .");
            Due.looks(Due.repeat(one, 24) + "(a).", "3 1 24");
            Due.isError(Due.repeat(one, 25) + "(a).");
        }
        for (String one : new String[] {"a", " ", "''", "\\'", "\\\\", "\\n", "\\t"}) {
            Due.looks("'" + Due.repeat(one, 24) + "'.", "2 0 24");
            Due.isError("'" + Due.repeat(one, 25) + "'.");
        }
        Due.isError(Due.repeat("a", 118) + " .");
        Due.says("in quotes perhaps none");
        Due.looks("''.", "2 0 0");
        Due.looks("''(a).", "3 1 0");
        Due.reads("''+''.", "'' + ''");
    }

    private static void longestVariables() {
        Due.says("letters, digits and _ behind it, at most 24 in all");
        for (String first : new String[] {"A", "Z", "_"}) {
            for (String more : new String[] {"a", "Z", "9", "_"}) {
                Due.looks(first + Due.repeat(more, 23) + ".", "0 0 0");
                Due.isError(first + Due.repeat(more, 24) + ".");
            }
        }
        String longest = "V" + Due.repeat("x", 22);
        Due.reads(longest + "y=" + longest + "z.", "_0 = _1");
        Due.reads(longest + "y=" + longest + "y.", "_0 = _0");
        Due.reads(longest + "=" + longest + "y.", "_0 = _1");
    }

    private static void greatestIntegers() {
        Due.says("up to 2147483647 (more is an error)");
        Due.looks("0.", "1 0 0");
        Due.looks("2147483646.", "1 0 2147483646");
        Due.looks("2147483647.", "1 0 2147483647");
        Due.looks(Due.repeat("0", 100) + "2147483647.", "1 0 2147483647");
        Due.looks("-2147483647.", "1 0 -2147483647");
        // The ones behind the greatest would be small ones if they wrapped around.
        for (String more : new String[] {"2147483648", "4294967295", "4294967296", "4294967297", "9223372036854775807",
            "9223372036854775808", "18446744073709551615", "18446744073709551616", "18446744073709551617", "0x80000000",
            "0xffffffff", "0x100000000", "0x100000001", "0x7fffffffffffffff", "0x8000000000000000", "0x10000000000000000",
            "0x10000000000000001", "0x" + Due.repeat("f", 100)}) {
            Due.isError(more + ".");
            Due.isError("-" + more + ".");
            Due.isError("f(a," + more + ").");
        }
    }

    private static void hexadecimals() {
        Due.says("0x and digits 0 .. 9, a .. f");
        Due.looks("0x0.", "1 0 0");
        Due.looks("0x9.", "1 0 9");
        Due.looks("0xa.", "1 0 10");
        Due.looks("0xf.", "1 0 15");
        Due.looks("0x10.", "1 0 16");
        Due.looks("0x7fffffff.", "1 0 2147483647");
        Due.looks("0x" + Due.repeat("0", 100) + "7fffffff.", "1 0 2147483647");
        Due.looks("-0x7fffffff.", "1 0 -2147483647");
        for (String text : new String[] {"0x.", "0xg.", "0xA.", "0X1.", "0x 1.", "1x1.", "00x1."}) {
            Due.isError(text);
        }
    }

    private static void codes() {
        Due.says("0' and a character: its code (with ' or \\ or nothing behind 0' it is an error)");
        for (char c : Due.characters().toCharArray()) {
            Due.looks("0'" + c + " .", c == '\'' || c == '\\' ? WRONG : "1 0 " + (int) c);
        }
        for (String text : new String[] {"0'", "0''", "0'''.", "0'\\n.", "0'\\\\.", "0'.", "00'a.", "1'a.", "0 'a."}) {
            Due.isError(text);
        }
        Due.looks("-0'a.", "1 0 -97");
    }

    private static void strings() {
        Due.says("in \" quotes any characters but \" and \\");
        for (char c : Due.characters().toCharArray()) {
            Due.reads("\"" + c + "\".", c == '"' || c == '\\' ? WRONG : "[" + (int) c + "]");
        }
        for (String text : new String[] {"\"", "\"a", "\"a.", "\"a\\\"\".", "\"a\"\"b\"."}) {
            Due.isError(text);
        }
        Due.says("STRINGS: at most 12");
        Due.reads("\"\".", "[]");
        Due.reads("\"" + Due.repeat("a", 12) + "\".", "[" + Due.repeat("97,", 11) + "97]");
        Due.isError("\"" + Due.repeat("a", 13) + "\".");
        Due.isError("\"" + Due.repeat("a", 117) + "\".");
    }

    private static void asLongAsCanBe() {
        Due.says("A token is as long as it can be");
        TermReader x = new TermReader();
        Due.op(x, 700, 0, "b");
        Due.op(x, 600, 6, "p");
        Due.reads(x, "1b 2.", "1 b 2");
        Due.reads(x, "0b 2.", "0 b 2");
        Due.reads(x, "0x1b.", "27");
        Due.reads(x, "0x1p.", "1 p");
        Due.reads(x, "0'ap.", "97 p");
        Due.reads(x, "0'pp.", "112 p");
        Due.reads(x, "''p.", "'' p");
        Due.reads(x, "\"\"p.", "[] p");
        Due.reads(x, "[]p.", "[] p");
        Due.reads(x, "ap.", "ap");
        Due.reads(x, "Xp.", "_0");
        Due.isError("a==b.");
        Due.isError("--1.");
        Due.isError("a=-1.");
        Due.isError("a=\\+.");
    }
}
