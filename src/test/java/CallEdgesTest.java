/** The edges of the calls, promise by promise (those of op() stand in OperatorEdgesTest). */
public final class CallEdgesTest {
    private static final String WRONG = "throws IllegalArgumentException";
    private static final String NO_ROOM = "throws IndexOutOfBoundsException";
    private static final int[] NO_TERMS = {-1, 2, 39, 40, 41, 256, 65536, Integer.MAX_VALUE, Integer.MIN_VALUE};
    private static final int[] NO_WHATS = {-1, 4, 5, 256, 65536, Integer.MAX_VALUE, Integer.MIN_VALUE};

    public static void main(String[] args) {
        newObject();
        textRefused();
        textFull();
        readWrong();
        readOutOfTheText();
        readFortyTerms();
        readSixHundredParts();
        refusedAgainAndAgain();
        wrongAgainAndAgain();
        partsOfEachKind();
        write();
        written();
        again();
        alike();
        look();
        count();
        Due.close();
    }

    /** All that the calls tell of an object without a change, but for what is in the text. */
    private static String state(TermReader x) {
        StringBuilder all = new StringBuilder();
        for (int what = 0; what < 4; what++) {
            all.append(x.count(what)).append(' ');
        }
        return all + Due.written(x);
    }

    /** Two terms, one of them written, and a text that is no term yet. */
    private static TermReader used() {
        TermReader x = new TermReader();
        Due.reads(x, "f(X,1).", "f(_0,1)");
        Due.reads(x, "a=b.", "a = b");
        Due.put(x, " left");
        return x;
    }

    private static void newObject() {
        Due.says("The operators that are there at first, no terms, an empty text");
        used();
        TermReader x = new TermReader();
        Due.same("counts and what is written", state(x), "0 0 0 14 ");
        Due.same("write(0)", Due.write(x, 0), NO_ROOM);
        Due.same("look(0, 0)", Due.answer(() -> x.look(0, 0)), NO_ROOM);
        Due.same("alike(0, 0)", Due.answer(() -> x.alike(0, 0)), NO_ROOM);
        Due.same("written(0)", x.written(0), -1);
        Due.same("read()", Due.read(x), WRONG);
    }

    private static void textRefused() {
        Due.says("False, refused, if the lowest byte is 0, one of them is not 32 .. 126");
        TermReader x = used();
        String before = state(x);
        Due.same("text(0)", x.text(0L), false);
        Due.same("the lowest byte is 0", x.text(0x61616161_61616100L), false);
        Due.same("nothing has changed", state(x), before);
        Due.reads(x, ".", "left");
        for (int c = 0; c < 256; c++) {
            boolean taken = c >= 32 && c <= 126;
            TermReader alone = new TermReader();
            Due.same("byte " + c, alone.text(c), taken);
            Due.same("count(0)", alone.count(0), taken ? 1 : 0);
            TermReader among = new TermReader();
            for (int place = 1; place < 8 && c != 0; place++) {
                long s = 0x6161616161616161L & ~(255L << 8 * place) | (long) c << 8 * place;
                Due.same("byte " + c + " at " + place, among.text(s), taken);
                // Where it is refused nothing ahead of it comes into the text either.
                Due.same("count(0)", among.count(0), taken ? 8 * place : 0);
            }
        }
        bytesUpToZero();
    }

    private static void bytesUpToZero() {
        Due.says("the bytes of s, the lowest first, up to the first zero byte");
        for (int n = 1; n <= 8; n++) {
            TermReader y = new TermReader();
            String name = "abcdefgh".substring(0, n);
            long behind = n < 7 ? 0xff1f7f00L << 8 * n + 8 : 0L;
            Due.same("text of " + n, y.text(Due.packed(name) | behind), true);
            Due.same("count(0)", y.count(0), n);
            Due.reads(y, ".", name);
        }
    }

    private static void textFull() {
        Due.says("or it would have more than 120");
        for (int n = 1; n <= 8; n++) {
            TermReader x = new TermReader();
            Due.put(x, Due.repeat(" ", 120 - n));
            Due.same("121 characters", n < 8 && x.text(Due.packed(Due.repeat("a", n + 1))), false);
            Due.same("count(0)", x.count(0), 120 - n);
            Due.same("120 characters", x.text(Due.packed(Due.repeat("a", n))), true);
            Due.same("count(0)", x.count(0), 120);
            Due.same("121 characters", x.text(Due.packed("a")), false);
            Due.same("128 characters", x.text(Due.packed("aaaaaaaa")), false);
            Due.same("count(0)", x.count(0), 120);
        }
        TermReader x = new TermReader();
        Due.same("text of 120", Due.put(x, Due.repeat(" ", 118) + "a."), true);
        Due.same("all of them are read", Due.read(x), "0");
        Due.same("count(0)", x.count(0), 0);
        Due.same("there is room again", Due.put(x, Due.repeat("(", 120)), true);
        Due.same("read()", Due.read(x), WRONG);
        Due.same("there is room again", Due.put(x, Due.repeat("!", 120)), true);
    }

    private static void readWrong() {
        Due.says("IllegalArgumentException: an error, or it is not so (the text is empty then)");
        TermReader x = used();
        x.write(0);
        for (String text : new String[] {"", "a", "a b.", ".", "a = .", "'a.", "f(a.", "2147483648.", "`.",
            "a /* .", "% .", "a ) .", "f(X,Y", "a b. c. d. "}) {
            x.again();
            Due.read(x);
            int terms = x.count(1);
            int parts = x.count(2);
            Due.put(x, text);
            Due.same(text, Due.read(x), WRONG);
            Due.same(text + ": count(0)", x.count(0), 0);
            Due.same(text + ": count(1)", x.count(1), terms);
            Due.same(text + ": count(2)", x.count(2), parts);
            Due.same(text + ": written", Due.written(x), "f(_0,1)");
        }
        Due.same("the next number", Due.term(x, "next."), "next");
        Due.same("count(3)", x.count(3), 14);
    }

    private static void readOutOfTheText() {
        Due.says("a term up to 1200 and an END behind it, from the beginning of the text; these are out of the text then");
        TermReader x = new TermReader();
        Due.put(x, " a. b.%c. 'x");
        Due.same("read()", Due.read(x), "0");
        Due.same("count(0)", x.count(0), 9);
        Due.same("read()", Due.read(x), "1");
        Due.same("count(0)", x.count(0), 6);
        Due.same("write(1)", Due.write(x, 1), "b");
        Due.same("read()", Due.read(x), WRONG);
        Due.same("count(0)", x.count(0), 0);
        Due.put(x, "a. `");
        Due.same("what stands behind it is no error yet", Due.read(x), "2");
        Due.same("count(0)", x.count(0), 2);
        Due.same("but now", Due.read(x), WRONG);
        Due.same("count(0)", x.count(0), 0);
        // What is put behind a text that could be read belongs to it.
        Due.put(x, "a.");
        Due.put(x, "b.");
        Due.same("a.b.", Due.read(x), WRONG);
    }

    private static void readFortyTerms() {
        Due.says("its number, 0, 1, .. (at most 40). IndexOutOfBoundsException: there are 40 (the text is as before)");
        TermReader x = new TermReader();
        for (int i = 0; i < 40; i++) {
            Due.put(x, "f(" + i + ",X).");
            Due.same("read()", Due.read(x), String.valueOf(i));
            Due.same("count(1)", x.count(1), i + 1);
        }
        Due.says("Of several exceptions that hold the first one listed is thrown");
        Due.isError(x, "a b.");
        Due.same("count(0)", x.count(0), 0);
        Due.says("IndexOutOfBoundsException: there are 40 (the text is as before)");
        x.write(39);
        Due.put(x, "a. `");
        String before = state(x);
        Due.same("the 41st", Due.read(x), NO_ROOM);
        Due.same("the 41st again", Due.read(x), NO_ROOM);
        Due.same("nothing has changed", state(x), before);
        Due.same("write(40)", Due.write(x, 40), NO_ROOM);
        Due.same("write(39)", Due.write(x, 39), "f(39,_0)");
        Due.same("write(0)", Due.write(x, 0), "f(0,_0)");
    }

    private static void readSixHundredParts() {
        Due.says("or all terms would have more than 600 parts (the text is as before)");
        String s = "\"abcdefghijkl\"";
        String most = "f(" + Due.repeat(s + ",", 5) + s + ").";
        TermReader x = new TermReader();
        for (int i = 1; i <= 3; i++) {
            Due.put(x, most);
            Due.same("read()", Due.read(x), String.valueOf(i - 1));
            Due.same("count(2)", x.count(2), 151 * i);
        }
        Due.put(x, "f(" + Due.repeat(s + ",", 5) + "[a,a,a,a,a,a,a,a,a,a,a]).");
        Due.same("602 parts", Due.read(x), NO_ROOM);
        Due.same("count(0)", x.count(0) > 0, true);
        Due.same("count(1)", x.count(1), 3);
        Due.same("count(2)", x.count(2), 453);
        Due.put(x, Due.repeat(" ", 120 - x.count(0)));
        Due.same("602 parts", Due.read(x), NO_ROOM);
        Due.same("count(0)", x.count(0), 120);
        exactlySixHundred(s);
    }

    private static void exactlySixHundred(String s) {
        TermReader x = new TermReader();
        for (int i = 0; i < 3; i++) {
            Due.put(x, "f(" + Due.repeat(s + ",", 5) + s + ").");
            Due.read(x);
        }
        Due.put(x, "f(" + Due.repeat(s + ",", 5) + "\"abcdefghij\").");
        Due.same("600 parts", Due.read(x), "3");
        Due.same("count(2)", x.count(2), 600);
        x.write(3);
        Due.put(x, "a.");
        String before = state(x);
        Due.same("601 parts", Due.read(x), NO_ROOM);
        Due.same("nothing has changed", state(x), before);
        Due.says("Of several exceptions that hold the first one listed is thrown");
        Due.put(x, "a");
        Due.same("a.a", Due.read(x), WRONG);
        String t = "\"abcdefghijk\"";
        String longest = "f(" + Due.repeat(s + ",", 5) + "g(" + t + "," + t + ",\"abcdefg\")).";
        Due.put(x, longest);
        Due.same("788 parts", Due.read(x), NO_ROOM);
        Due.same("count(0)", x.count(0), longest.length());
        Due.same("count(2)", x.count(2), 600);
        Due.put(x, ".");
        Due.same("788 parts, but no END", Due.read(x), WRONG);
        Due.same("count(0)", x.count(0), 0);
        Due.put(x, "f(" + Due.repeat(s + ",", 6) + s + ").");
        Due.same("seven arguments", Due.read(x), WRONG);
        Due.put(x, "f(f(" + s + ")).");
        Due.same("15 deep", Due.read(x), WRONG);
        Due.same("count(2)", x.count(2), 600);
        Due.same("alike(0, 2)", x.alike(0, 2), true);
    }

    private static void refusedAgainAndAgain() {
        Due.says("what throws changes nothing but as said");
        TermReader x = new TermReader();
        Due.reads(x, "small(X).", "small(_0)");
        for (int i = 0; i < 3; i++) {
            Due.put(x, "f(" + Due.repeat("\"abcdefghijkl\",", 5) + "\"abcdefghijkl\").");
            Due.read(x);
        }
        Due.put(x, "f(" + Due.repeat("\"abcdefghijkl\",", 5) + "\"abcdefg\").");
        Due.same("read()", Due.read(x), "4");
        Due.same("count(2)", x.count(2), 596);
        Due.put(x, Due.repeat("a", 24) + "," + Due.repeat("b", 24) + "," + Due.repeat("c", 24) + "," + Due.repeat("d", 24) + ".");
        for (int i = 0; i < 80; i++) {
            Due.same("603 parts", Due.read(x), NO_ROOM);
        }
        Due.same("count(0)", x.count(0), 100);
        Due.same("again()", x.again(), true);
        Due.same("598 parts", Due.read(x), "5");
        Due.same("alike(0, 5)", x.alike(0, 5), true);
        Due.same("write(5)", Due.write(x, 5), "small(_0)");
    }

    private static void wrongAgainAndAgain() {
        Due.says("what throws changes nothing but as said");
        TermReader x = new TermReader();
        Due.op(x, 300, 2, "oooo");
        Due.put(x, "a" + Due.repeat(" oooo b", 12) + ".");
        Due.read(x);
        // From now on it is written with more brackets than can be read.
        Due.op(x, 300, 1, "oooo");
        x.write(0);
        for (int i = 0; i < 200; i++) {
            Due.same("again()", x.again(), true);
            Due.same("eleven brackets", Due.read(x), WRONG);
        }
        Due.reads(x, "small(x).", "small(x)");
        Due.same("count(1)", x.count(1), 2);
    }

    private static void partsOfEachKind() {
        Due.says("Each variable (as often as it stands), integer, atom and compound one is a part");
        String[] texts = {"X", "_", "1", "-1", "a", "[]", "{}", "''", "\"\"", "- 1", "- a", "a=b", "f(X,X,X)", "[a]", "[a|b]", "[a,b]",
            "\"ab\"", "{a}", "((a))", "f([],[[]])", "0'a", "a,b,c"};
        int[] parts = {1, 1, 1, 1, 1, 1, 1, 1, 1, 2, 2, 3, 4, 3, 3, 5, 5, 2, 1, 5, 1, 5};
        for (int i = 0; i < texts.length; i++) {
            TermReader x = new TermReader();
            Due.put(x, texts[i] + ".");
            Due.same(texts[i], Due.read(x), "0");
            Due.same(texts[i] + ": count(2)", x.count(2), parts[i]);
        }
    }

    private static void write() {
        Due.says("how many characters that has. IndexOutOfBoundsException: there is none");
        TermReader x = used();
        String before = state(x);
        for (int t : NO_TERMS) {
            Due.same("write(" + t + ")", Due.write(x, t), NO_ROOM);
        }
        Due.same("nothing has changed", state(x), before);
        Due.same("write(0)", x.write(0), 7);
        Due.same("write(1)", x.write(1), 5);
        TermReader y = new TermReader();
        Due.reads(y, "'\\n'.", "'\\n'");
        Due.same("write(0)", y.write(0), 4);
    }

    private static void written() {
        Due.says("Character i of what was written latest; -1 if there is none");
        TermReader x = new TermReader();
        for (int i : new int[] {-1, 0, 1, Integer.MAX_VALUE, Integer.MIN_VALUE}) {
            Due.same("written(" + i + ")", x.written(i), -1);
        }
        Due.reads(x, "longer(1).", "longer(1)");
        Due.reads(x, "b.", "b");
        Due.same("written(0)", x.written(0), (int) 'b');
        for (int i : new int[] {-1, 1, 2, 8, 65536, Integer.MAX_VALUE, Integer.MIN_VALUE}) {
            Due.same("written(" + i + ")", x.written(i), -1);
        }
        x.write(0);
        Due.same("written(0)", x.written(0), (int) 'l');
        Due.same("written(8)", x.written(8), (int) ')');
        Due.same("written(9)", x.written(9), -1);
        Due.put(x, "c.");
        Due.read(x);
        Due.same("read() writes nothing", Due.written(x), "longer(1)");
        Due.op(x, 300, 4, "longer");
        Due.same("op() writes nothing", Due.written(x), "longer(1)");
        x.again();
        Due.same("again() leaves it", Due.written(x), "longer(1)");
    }

    private static void again() {
        Due.says("What was written latest, and a blank, ., and a blank behind it, are the text");
        TermReader x = new TermReader();
        Due.put(x, "a");
        Due.same("again() with nothing written", x.again(), true);
        Due.same("count(0)", x.count(0), 3);
        Due.same("read()", Due.read(x), WRONG);
        Due.reads(x, "a.", "a");
        Due.put(x, Due.repeat("b", 120));
        Due.same("again()", x.again(), true);
        Due.same("count(0)", x.count(0), 4);
        Due.same("again()", x.again(), true);
        Due.same("count(0)", x.count(0), 4);
        Due.put(x, "c.");
        Due.same("read()", Due.read(x), "1");
        Due.same("count(0)", x.count(0), 3);
        Due.same("read()", Due.read(x), "2");
        Due.same("write(2)", Due.write(x, 2), "c");
        Due.says("if that is at most 120 characters (false otherwise, nothing is done)");
        for (int n = 115; n <= 118; n++) {
            againOf(n);
        }
        String codes = "[" + Due.repeat("126,", 11) + "126]";
        TermReader y = new TermReader();
        Due.reads(y, "f(" + Due.repeat("\"~~~~~~~~~~~~\",", 2) + "\"~~~~~~~~~~~~\").", "f(" + codes + "," + codes + "," + codes + ")");
        Due.same("again() of 150", y.again(), false);
        Due.same("count(0)", y.count(0), 0);
    }

    /** A term of n characters as it is written: with three more it must be at most 120. */
    private static void againOf(int n) {
        String full = "f(" + Due.repeat("a", 24) + "," + Due.repeat("b", 24) + "," + Due.repeat("c", 24) + "," + Due.repeat("d", 24)
            + "," + Due.repeat("e", n - 103) + ")";
        TermReader x = new TermReader();
        Due.reads(x, full + ".", full);
        Due.same("write(0)", x.write(0), n);
        Due.put(x, "kept.");
        Due.same("again() of " + n, x.again(), n <= 117);
        Due.same("count(0)", x.count(0), n <= 117 ? n + 3 : 5);
        Due.same("read()", Due.read(x), "1");
        Due.same("alike(0, 1)", x.alike(0, 1), n <= 117);
        Due.same("write(1)", Due.write(x, 1), n <= 117 ? full : "kept");
    }

    private static void alike() {
        Due.says("each of one has just one of the other. IndexOutOfBoundsException: there is none");
        TermReader x = used();
        String before = state(x);
        for (int t : NO_TERMS) {
            Due.same("alike(0, " + t + ")", Due.answer(() -> x.alike(0, t)), NO_ROOM);
            Due.same("alike(" + t + ", 0)", Due.answer(() -> x.alike(t, 0)), NO_ROOM);
            Due.same("alike(" + t + ", " + t + ")", Due.answer(() -> x.alike(t, t)), NO_ROOM);
        }
        Due.same("nothing has changed", state(x), before);
        Due.same("alike(0, 0)", x.alike(0, 0), true);
        Due.same("alike(0, 1)", x.alike(0, 1), false);
        String[][] apart = {{"f(X,X)", "f(X,Y)"}, {"f(X,Y,X)", "f(X,Y,Y)"}, {"f(X,Y)", "f(X,1)"}, {"X", "a"}, {"X", "0"}, {"0", "a"},
            {"1", "-1"}, {"''", "[]"}, {"a", "a(a)"}, {"f(a)", "f(a,a)"}, {"f(a,a,a,a,a)", "f(a,a,a,a,a,a)"},
            {"f(a,a,a,a,a,a)", "f(a,a,a,a,a,b)"}, {"[a]", "[a|a]"}, {"a+b", "a-b"}, {"aaaaaaaaaaaaaaaaaaaaaaaa", "aaaaaaaaaaaaaaaaaaaaaaab"},
            {"a" + Due.repeat("+a", 13), "b" + Due.repeat("+a", 13)}, {"\"abcdefghijkl\"", "\"abcdefghijkm\""}};
        for (String[] pair : apart) {
            pair(pair[0], pair[1], false);
        }
        String[][] same = {{"f(X,Y,X)", "f(Y,X,Y)"}, {"f(_,_)", "f(X,Y)"}, {"X", "_"}, {"'a'", "a"}, {"0x10", "16"}, {"- (1)", "-(1)"},
            {"a" + Due.repeat("+a", 13), "a" + Due.repeat("+a", 13)}, {"[a|[]]", "[a]"}, {"(a)", "a"}, {"-0", "0"}};
        for (String[] pair : same) {
            pair(pair[0], pair[1], true);
        }
    }

    private static void pair(String first, String second, boolean want) {
        TermReader x = new TermReader();
        Due.put(x, first + ".");
        Due.same(first, Due.read(x), "0");
        Due.put(x, second + ".");
        Due.same(second, Due.read(x), "1");
        Due.same(first + " and " + second, x.alike(0, 1), want);
        Due.same(second + " and " + first, x.alike(1, 0), want);
    }

    private static void look() {
        Due.says("IndexOutOfBoundsException: there is none; IllegalArgumentException: another what");
        TermReader x = used();
        String before = state(x);
        for (int t : NO_TERMS) {
            for (int what = 0; what < 4; what++) {
                int w = what;
                Due.same("look(" + t + ", " + w + ")", Due.answer(() -> x.look(t, w)), NO_ROOM);
            }
        }
        for (int what : NO_WHATS) {
            Due.same("look(0, " + what + ")", Due.answer(() -> x.look(0, what)), WRONG);
            Due.same("look(1, " + what + ")", Due.answer(() -> x.look(1, what)), WRONG);
            Due.same("look(2, " + what + "): the first one listed", Due.answer(() -> x.look(2, what)), NO_ROOM);
            Due.same("look(-1, " + what + "): the first one listed", Due.answer(() -> x.look(-1, what)), NO_ROOM);
        }
        Due.same("nothing has changed", state(x), before);
        Due.says("what 0: 0 a variable, 1 an integer, 2 an atom, 3 compound; 1: how many arguments; 2: an integer's value, ..");
        Due.looks("X.", "0 0 0");
        Due.looks("2147483647.", "1 0 2147483647");
        Due.looks("-2147483647.", "1 0 -2147483647");
        Due.looks("''.", "2 0 0");
        Due.looks("[].", "2 0 2");
        Due.looks("\"\".", "2 0 2");
        Due.looks("f(a).", "3 1 1");
        Due.looks("f(a,b,c,d,e,f).", "3 6 1");
        Due.looks("[a].", "3 2 1");
        Due.looks("{a}.", "3 1 2");
        Due.looks("a:-b.", "3 2 2");
        Due.looks(Due.repeat("a", 24) + "(a).", "3 1 24");
        Due.says("3: how deep it is (1 without arguments)");
        for (String text : new String[] {"X", "_", "1", "-1", "a", "''", "[]", "{}", "\"\"", "((a))"}) {
            TermReader y = new TermReader();
            Due.put(y, text + ".");
            Due.same(text, Due.read(y), "0");
            Due.same(text + ": look(0, 3)", y.look(0, 3), 1);
        }
    }

    private static void count() {
        Due.says("IllegalArgumentException: another what");
        TermReader x = used();
        String before = state(x);
        for (int what : NO_WHATS) {
            Due.same("count(" + what + ")", Due.answer(() -> x.count(what)), WRONG);
        }
        Due.same("nothing has changed", state(x), before);
        Due.says("what 0 how many characters the text has, 1 how many terms there are, 2 how many parts these have, 3 how many operators");
        Due.same("count of 0 to 3 and what is written", before, "5 2 6 14 a = b");
        TermReader y = new TermReader();
        Due.put(y, Due.repeat(" ", 120));
        Due.same("count(0)", y.count(0), 120);
    }
}
