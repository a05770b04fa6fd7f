/** The edges of the operators and of op(), sentence by sentence. */
public final class OperatorEdgesTest {
    private static final String WRONG = "throws IllegalArgumentException";
    private static final String REFUSED = "throws IllegalStateException";
    private static final String[] TYPES = {"xfx", "xfy", "yfx", "fy", "fx", "xf", "yf"};

    public static void main(String[] args) {
        priorities();
        types();
        names();
        comma();
        priorityNone();
        othersStay();
        atFirst();
        for (int type = 0; type < TYPES.length; type++) {
            greatestOfArguments(type);
        }
        infixOrPostfix();
        most();
        Due.close();
    }

    private static boolean isPrefix(String type) {
        return type.startsWith("f");
    }

    private static boolean isInfix(String type) {
        return type.length() == 3;
    }

    private static int left(int priority, String type) {
        return type.startsWith("y") ? priority : priority - 1;
    }

    private static int right(int priority, String type) {
        return type.endsWith("y") ? priority : priority - 1;
    }

    private static void priorities() {
        Due.says("a PRIORITY 1 .. 1200; IllegalArgumentException: no priority");
        TermReader x = new TermReader();
        for (int priority : new int[] {-1, 1201, -1200, Integer.MAX_VALUE, Integer.MIN_VALUE, 65536 + 700, -65536}) {
            for (int type = 0; type < 7; type++) {
                Due.same("op " + priority, Due.op(x, priority, type, "o"), WRONG);
            }
        }
        Due.same("count(3)", x.count(3), 14);
        Due.same("op 1", Due.op(x, 1, 0, "o"), "told");
        Due.same("op 1", Due.op(x, 1, 4, "p"), "told");
        Due.reads(x, "a o b = c.", "a o b = c");
        // Its argument's greatest priority is 0: whatever is written by no operator.
        Due.reads(x, "p a.", "p a");
        Due.reads(x, "p (p a).", "p (p a)");
        Due.isError(x, "p p a.");
        Due.isError(x, "a o - 1.");
        Due.same("op 1200", Due.op(x, 1200, 0, "o"), "told");
        Due.reads(x, "a->b o c;d.", "a -> b o c ; d");
        Due.same("count(3)", x.count(3), 16);
    }

    private static void types() {
        Due.says("a TYPE: 0 xfx, .. 6 yf; IllegalArgumentException: no type");
        TermReader x = new TermReader();
        for (int type : new int[] {-1, 7, 8, 256, Integer.MAX_VALUE, Integer.MIN_VALUE}) {
            Due.same("type " + type, Due.op(x, 700, type, "o"), WRONG);
            Due.same("type " + type, Due.op(x, 0, type, "is"), WRONG);
        }
        Due.same("count(3)", x.count(3), 14);
    }

    private static void names() {
        Due.says("letters a .. z alone or signs alone, not a single . and not with / and * first; at most eight");
        for (char c : Due.characters().toCharArray()) {
            boolean letter = c >= 'a' && c <= 'z';
            boolean sign = "+-*/\\^<>=~:.?@#&$".indexOf(c) >= 0;
            TermReader x = new TermReader();
            Due.same("name " + c, Due.op(x, 0, 0, "" + c), (letter || sign) && c != '.' ? "told" : WRONG);
            Due.same("name a" + c, Due.op(x, 0, 0, "a" + c), letter ? "told" : WRONG);
            Due.same("name +" + c, Due.op(x, 0, 0, "+" + c), sign ? "told" : WRONG);
            Due.same("name abcdefg" + c, Due.op(x, 0, 0, "abcdefg" + c), letter ? "told" : WRONG);
            Due.same("name /" + c, Due.op(x, 0, 0, "/" + c), sign && c != '*' ? "told" : WRONG);
            Due.same("name ." + c, Due.op(x, 0, 0, "." + c), sign ? "told" : WRONG);
        }
        TermReader x = new TermReader();
        Due.says("by the bytes of its name as with text(); IllegalArgumentException: no name");
        for (long name : new long[] {0L, 0x6100L, 0x1fL, 0x7fL, 0x80L, 0xffL, -1L, Long.MIN_VALUE, 0x8061616161616161L, 0xe1L}) {
            Due.same("name " + name, Due.op(x, 700, 0, name), WRONG);
        }
        Due.same("count(3)", x.count(3), 14);
        Due.same("behind a zero byte", Due.op(x, 700, 0, 0xff0000L | Due.packed("o")), "told");
        Due.same("the same name", Due.op(x, 700, 0, "o"), "told");
        Due.same("count(3)", x.count(3), 15);
        Due.same("eight letters", Due.op(x, 700, 0, "abcdefgh"), "told");
        Due.same("eight signs", Due.op(x, 700, 0, "+-*/\\^<>"), "told");
        Due.reads(x, "a abcdefgh b.", "a abcdefgh b");
        Due.reads(x, "a +-*/\\^<> b.", "a +-*/\\^<> b");
        Due.isError(x, "a abcdefghi b.");
        Due.isError(x, "a abcdefg b.");
    }

    private static void comma() {
        Due.says(", is an infix one, 1000 xfy, and can't be told; IllegalArgumentException: ,");
        TermReader x = new TermReader();
        for (int type = 0; type < 7; type++) {
            Due.same("op 0", Due.op(x, 0, type, ","), WRONG);
            Due.same("op 1000", Due.op(x, 1000, type, ","), WRONG);
        }
        Due.same("count(3)", x.count(3), 14);
        Due.reads(x, "a,b,c.", "a,b,c");
    }

    private static void priorityNone() {
        Due.says("Priority 0: it is none (any more) as prefix (types 3, 4), or as infix or postfix (others)");
        for (int type = 0; type < 7; type++) {
            boolean prefix = isPrefix(TYPES[type]);
            TermReader x = new TermReader();
            Due.same("none that is there", Due.op(x, 0, type, "o"), "told");
            Due.same("count(3)", x.count(3), 14);
            Due.same("- out", Due.op(x, 0, type, "-"), "told");
            Due.same("count(3)", x.count(3), 13);
            Due.reads(x, "a-b.", prefix ? "a - b" : WRONG);
            Due.reads(x, "- a.", prefix ? WRONG : "- a");
            Due.same("- out again", Due.op(x, 0, type, "-"), "told");
            Due.same("count(3)", x.count(3), 13);
            Due.op(x, 200, 5, "o");
            Due.op(x, 200, 3, "o");
            Due.same("o out", Due.op(x, 0, type, "o"), "told");
            Due.same("count(3)", x.count(3), 14);
            Due.reads(x, "a o.", prefix ? "a o" : WRONG);
            Due.reads(x, "o a.", prefix ? WRONG : "o a");
        }
    }

    /** Each infix one at first, with the priority that its left argument may have. */
    private static void othersStay() {
        Due.says("Priority 0: it is none (any more)");
        String[] names = {":-", "->", "=", "<", "is", "+", "-", "*", "/", "^"};
        int[] lefts = {1199, 1049, 699, 699, 699, 500, 500, 400, 400, 199};
        for (int out = 0; out < names.length; out++) {
            for (int i = 0; i < names.length; i++) {
                TermReader x = new TermReader();
                Due.op(x, lefts[i], 6, "fits");
                Due.op(x, lefts[i] + 1, 6, "high");
                Due.same(names[out] + " out", Due.op(x, 0, 0, names[out]), "told");
                String behind = " " + names[i] + " b";
                Due.reads(x, "a fits" + behind + ".", i == out ? WRONG : "a fits" + behind);
                Due.isError(x, "a high" + behind + ".");
                Due.same("count(3)", x.count(3), 15);
            }
        }
    }

    private static void atFirst() {
        Due.says("At first: 1200 xfx :-, 1200 fx :-, 1100 xfy ;, 1050 xfy ->, 900 fy \\+, 700 xfx =, ..");
        Due.same("count(3)", new TermReader().count(3), 14);
        probe(":-", 1200, "xfx");
        probe(":-", 1200, "fx");
        probe(";", 1100, "xfy");
        probe("->", 1050, "xfy");
        probe("\\+", 900, "fy");
        probe("=", 700, "xfx");
        probe("<", 700, "xfx");
        probe("is", 700, "xfx");
        probe("+", 500, "yfx");
        probe("-", 500, "yfx");
        probe("*", 400, "yfx");
        probe("/", 400, "yfx");
        probe("^", 200, "xfy");
        probe("-", 200, "fy");
        Due.says(", is an infix one, 1000 xfy");
        probe(",", 1000, "xfy");
    }

    /** Arguments of neighbouring priorities tell an operator's own priority and its type. */
    private static void probe(String name, int priority, String type) {
        for (int p = priority - 2; p <= priority + 2 && p <= 1200; p++) {
            TermReader x = new TermReader();
            Due.op(x, p, 6, "post");
            Due.op(x, p, 3, "pre");
            if (!isPrefix(type)) {
                boolean fits = p <= left(priority, type);
                Due.reads(x, "(a post)" + name + " b.", (fits ? "a post" : "(a post)") + infix(name) + "b");
                Due.same(name + " behind " + p, Due.term(x, "a post " + name + " b.").equals(WRONG), !fits);
            }
            if (isInfix(type)) {
                boolean fits = p <= right(priority, type);
                Due.reads(x, "a " + name + " (pre b).", "a" + infix(name) + (fits ? "pre b" : "(pre b)"));
                Due.same(name + " before " + p, Due.term(x, "a " + name + " pre b.").equals(WRONG), !fits);
            }
            if (isPrefix(type)) {
                boolean fits = p <= right(priority, type);
                Due.reads(x, name + " (pre b).", name + (fits ? " pre b" : " (pre b)"));
                Due.same(name + " before " + p, Due.term(x, name + " pre b.").equals(WRONG), !fits);
            }
            outside(x, name, priority, type, p);
        }
    }

    /** What is of priority p may be an argument of post and pre just if p is not above theirs. */
    private static void outside(TermReader x, String name, int priority, String type, int p) {
        String whole = isInfix(type) ? "a " + name + " b" : name + " b";
        String shown = isInfix(type) ? "a" + infix(name) + "b" : whole;
        boolean fits = priority <= p;
        Due.reads(x, "pre (" + whole + ").", fits ? "pre " + shown : "pre (" + shown + ")");
        boolean open = right(priority, type) == priority && priority == p;
        Due.reads(x, "(" + whole + ") post.", fits && !open ? shown + " post" : "(" + shown + ") post");
    }

    private static String infix(String name) {
        return name.equals(",") ? "," : " " + name + " ";
    }

    private static void greatestOfArguments(int type) {
        Due.says("An ARGUMENT's greatest priority is the operator's where the type has y, else one less");
        for (int priority : new int[] {1, 2, 300, 999, 1000, 1199}) {
            TermReader x = new TermReader();
            Due.same("told", Due.op(x, priority, type, "o"), "told");
            for (int p = Math.max(1, priority - 1); p <= priority + 1; p++) {
                Due.op(x, p, 6, "post");
                Due.op(x, p, 3, "pre");
                argumentsOf(x, TYPES[type], priority, p);
            }
        }
    }

    private static void argumentsOf(TermReader x, String type, int priority, int p) {
        if (!isPrefix(type)) {
            boolean fits = p <= left(priority, type);
            String behind = isInfix(type) ? " o b" : " o";
            Due.reads(x, "a post" + behind + ".", fits ? "a post" + behind : WRONG);
            Due.reads(x, "o(post(a)" + (isInfix(type) ? ",b" : "") + ").", (fits ? "a post" : "(a post)") + behind);
        }
        if (isPrefix(type) || isInfix(type)) {
            boolean fits = p <= right(priority, type);
            String ahead = isInfix(type) ? "a o " : "o ";
            Due.reads(x, ahead + "pre b.", fits ? ahead + "pre b" : WRONG);
            Due.reads(x, "o(" + (isInfix(type) ? "a," : "") + "pre(b)).", ahead + (fits ? "pre b" : "(pre b)"));
        }
    }

    private static void infixOrPostfix() {
        Due.says("IllegalStateException: an infix one would be postfix or the other way");
        for (int before = 0; before < 7; before++) {
            for (int after = 0; after < 7; after++) {
                boolean apart = isPrefix(TYPES[before]) != isPrefix(TYPES[after]);
                boolean refused = !apart && isInfix(TYPES[before]) != isInfix(TYPES[after]);
                TermReader x = new TermReader();
                Due.op(x, 300, before, "o");
                Due.same(before + " and then " + after, Due.op(x, 400, after, "o"), refused ? REFUSED : "told");
                Due.same("count(3)", x.count(3), apart ? 16 : 15);
                // Refused, it is what it was, of 300, so that a post of 400 is above its argument's.
                Due.op(x, 400, 6, "post");
                if (refused) {
                    Due.same("as before", Due.term(x, isInfix(TYPES[before]) ? "a post o b." : "a post o."), WRONG);
                    Due.same("as before", Due.term(x, isInfix(TYPES[before]) ? "a o b." : "a o."),
                        isInfix(TYPES[before]) ? "a o b" : "a o");
                }
                Due.same("none", Due.op(x, 0, after, "o"), "told");
                Due.same("count(3)", x.count(3), apart ? 16 : 15);
            }
        }
    }

    private static void most() {
        Due.says("or there would be more than 24 operators (a name's prefix one counts for itself)");
        TermReader x = new TermReader();
        for (int i = 0; i < 5; i++) {
            String name = "" + (char) ('p' + i);
            Due.same(name, Due.op(x, 300, i % 2 == 0 ? 0 : 5, name), "told");
            Due.same(name + " as prefix", Due.op(x, 300, 3, name), "told");
            Due.same("count(3)", x.count(3), 16 + 2 * i);
        }
        for (int type = 0; type < 7; type++) {
            Due.same("the 25th", Due.op(x, 300, type, "z"), REFUSED);
        }
        Due.same("the 25th as prefix", Due.op(x, 300, 3, "is"), REFUSED);
        Due.same("the 25th as infix", Due.op(x, 300, 0, "\\+"), REFUSED);
        Due.same("count(3)", x.count(3), 24);
        Due.isError(x, "a z b.");
        Due.same("one that is there", Due.op(x, 1200, 1, "p"), "told");
        Due.reads(x, "a;b p c p d.", "a ; b p c p d");
        Due.same("none of those that are not there", Due.op(x, 0, 0, "z"), "told");
        Due.same("the 25th", Due.op(x, 300, 0, "z"), REFUSED);
        Due.same("one out", Due.op(x, 0, 3, "-"), "told");
        Due.same("the 24th", Due.op(x, 300, 0, "z"), "told");
        Due.same("the 25th", Due.op(x, 200, 3, "-"), REFUSED);
        Due.same("count(3)", x.count(3), 24);
        Due.says("Of several exceptions that hold the first one listed is thrown");
        Due.same("no priority", Due.op(x, 1201, 0, "y"), WRONG);
        Due.same("no type", Due.op(x, 300, 7, "y"), WRONG);
        Due.same("no name", Due.op(x, 300, 0, "Y"), WRONG);
        Due.same("no priority, infix as postfix", Due.op(x, -1, 5, "is"), WRONG);
    }
}
