import java.util.ArrayList;
import java.util.HashMap;
import java.util.List;
import java.util.Map;
import java.util.regex.Matcher;
import java.util.regex.Pattern;

/**
 * The document once more, with the whole Java library and another way of working: patterns for the
 * tokens, trees of objects for the terms. The class is held against it by ModelTest.
 */
final class PlainModel {
    record Operator(int priority, String type) {
        int left() {
            return type.startsWith("y") ? priority : priority - 1;
        }

        int right() {
            return type.endsWith("y") ? priority : priority - 1;
        }

        boolean infix() {
            return type.length() == 3;
        }
    }

    record Token(String kind, String name, long value, int start, int end, boolean quoted) {
    }

    /** A variable has a key, an integer a value, all others a name and arguments. */
    static final class Term {
        String variable;
        Long value;
        String name;
        List<Term> arguments = new ArrayList<>();

        int parts() {
            return 1 + arguments.stream().mapToInt(Term::parts).sum();
        }

        int depth() {
            return 1 + arguments.stream().mapToInt(Term::depth).max().orElse(0);
        }

        boolean is(String wanted, int arity) {
            return wanted.equals(name) && arguments.size() == arity;
        }

        void variables(List<String> found) {
            if (variable != null && !found.contains(variable)) {
                found.add(variable);
            }
            arguments.forEach(a -> a.variables(found));
        }
    }

    record Read(Term term, int priority) {
    }

    private static final String[] TYPES = {"xfx", "xfy", "yfx", "fy", "fx", "xf", "yf"};
    private static final String SIGNS = "[-+*/\\\\^<>=~:.?@#&$]";
    private static final Pattern LAYOUT = Pattern.compile("(?: |%.*|/\\*.*?\\*/)*");
    private static final Pattern WORD = Pattern.compile("[a-z][A-Za-z0-9_]*|" + SIGNS + "+|!|;|\\[\\]|\\{\\}");
    private static final Pattern QUOTED = Pattern.compile("'((?:[^'\\\\]|''|\\\\[nt\\\\'])*)'(?!')");
    private static final Pattern VARIABLE = Pattern.compile("[A-Z_][A-Za-z0-9_]*");
    private static final Pattern CODE = Pattern.compile("0'(.?)");
    private static final Pattern HEX = Pattern.compile("0x([0-9a-f]+)");
    private static final Pattern DIGITS = Pattern.compile("[0-9]+");
    private static final Pattern STRING = Pattern.compile("\"([^\"\\\\]*)\"");
    private static final Pattern OPERATOR_NAME = Pattern.compile("[a-z]{1,8}|(?!\\.$|/\\*)" + SIGNS + "{1,8}");
    private static final Pattern PLAIN = Pattern.compile("[a-z][A-Za-z0-9_]*|(?!\\.$|/\\*)" + SIGNS + "+|!|;|\\[\\]|\\{\\}");

    private String text = "";
    private String written = "";
    private final List<Term> terms = new ArrayList<>();
    private final Map<String, Operator> prefixes = new HashMap<>();
    private final Map<String, Operator> others = new HashMap<>();
    private List<Token> tokens = new ArrayList<>();
    private int at;
    private int nameless;
    private int levels = 10;

    PlainModel() {
        others.put(":-", new Operator(1200, "xfx"));
        prefixes.put(":-", new Operator(1200, "fx"));
        others.put(";", new Operator(1100, "xfy"));
        others.put("->", new Operator(1050, "xfy"));
        others.put(",", new Operator(1000, "xfy"));
        prefixes.put("\\+", new Operator(900, "fy"));
        others.put("=", new Operator(700, "xfx"));
        others.put("<", new Operator(700, "xfx"));
        others.put("is", new Operator(700, "xfx"));
        others.put("+", new Operator(500, "yfx"));
        others.put("-", new Operator(500, "yfx"));
        others.put("*", new Operator(400, "yfx"));
        others.put("/", new Operator(400, "yfx"));
        others.put("^", new Operator(200, "xfy"));
        prefixes.put("-", new Operator(200, "fy"));
    }

    private static String unpacked(long s) {
        StringBuilder all = new StringBuilder();
        for (long left = s; (left & 255) != 0; left >>>= 8) {
            all.append((char) (left & 255));
        }
        return all.toString();
    }

    boolean text(long s) {
        String added = unpacked(s);
        if (!added.matches("[ -~]+") || text.length() + added.length() > 120) {
            return false;
        }
        text += added;
        return true;
    }

    void op(int priority, int type, long packedName) {
        String name = unpacked(packedName);
        if (priority < 0 || priority > 1200 || type < 0 || type > 6 || !OPERATOR_NAME.matcher(name).matches()) {
            throw new IllegalArgumentException();
        }
        Map<String, Operator> table = type == 3 || type == 4 ? prefixes : others;
        if (priority == 0) {
            table.remove(name);
            return;
        }
        Operator told = new Operator(priority, TYPES[type]);
        Operator before = table.get(name);
        if (before != null ? before.infix() != told.infix() && table == others : count(3) == 24) {
            throw new IllegalStateException();
        }
        table.put(name, told);
    }

    int read() {
        Term term;
        int end;
        try {
            tokens = tokens();
            at = 0;
            term = term(1200, 0).term();
            end = take("end").end();
            require(term.depth() <= 14);
        } catch (IllegalArgumentException e) {
            text = "";
            throw e;
        }
        if (terms.size() == 40 || count(2) + term.parts() > 600) {
            throw new IndexOutOfBoundsException();
        }
        text = text.substring(end);
        terms.add(term);
        return terms.size() - 1;
    }

    /** Whether what was written latest would read as term t if terms could lie in terms as deep as they like. */
    boolean isOnlyTooDeep(int t) {
        String before = text;
        levels = 1000;
        text = written + " . ";
        try {
            tokens = tokens();
            at = 0;
            Term again = term(1200, 0).term();
            return sees(0, "end") && alike(of(t), again, new HashMap<>(), new HashMap<>());
        } catch (IllegalArgumentException e) {
            return false;
        } finally {
            text = before;
            levels = 10;
        }
    }

    private static void require(boolean holds) {
        if (!holds) {
            throw new IllegalArgumentException();
        }
    }

    private List<Token> tokens() {
        List<Token> found = new ArrayList<>();
        int from = 0;
        do {
            Matcher layout = LAYOUT.matcher(text).region(from, text.length());
            from = layout.lookingAt() ? layout.end() : from;
            require(!text.startsWith("/*", from) && from < text.length());
            found.add(token(from));
            from = found.get(found.size() - 1).end();
        } while (!found.get(found.size() - 1).kind().equals("end"));
        return found;
    }

    private Token token(int from) {
        Matcher m = Pattern.compile("").matcher(text).region(from, text.length());
        m.useTransparentBounds(true);
        if (m.usePattern(Pattern.compile("\\.(?=[ %]|$)")).lookingAt()) {
            return new Token("end", "", 0, from, m.end(), false);
        }
        if (m.usePattern(WORD).lookingAt()) {
            require(m.group().length() <= 24);
            return new Token("name", m.group(), 0, from, m.end(), false);
        }
        if (m.usePattern(QUOTED).lookingAt()) {
            String name = unquoted(m.group(1));
            require(name.length() <= 24);
            return new Token("name", name, 0, from, m.end(), true);
        }
        if (m.usePattern(VARIABLE).lookingAt()) {
            require(m.group().length() <= 24);
            return new Token("variable", m.group(), 0, from, m.end(), false);
        }
        if (m.usePattern(STRING).lookingAt()) {
            require(m.group(1).length() <= 12);
            return new Token("string", m.group(1), 0, from, m.end(), false);
        }
        if (m.usePattern(Pattern.compile("[0-9]")).lookingAt()) {
            return integer(m, from);
        }
        require("()[]{},|".indexOf(text.charAt(from)) >= 0);
        return new Token(text.substring(from, from + 1), ",", 0, from, from + 1, false);
    }

    private static String unquoted(String inner) {
        return Pattern.compile("''|\\\\(.)").matcher(inner).replaceAll(m -> Matcher.quoteReplacement(
            m.group(1) == null ? "'" : m.group(1).equals("n") ? "\n" : m.group(1).equals("t") ? "\t" : m.group(1)));
    }

    private static Token integer(Matcher m, int from) {
        if (m.usePattern(CODE).lookingAt()) {
            require(m.group(1).matches("[^'\\\\]"));
            return new Token("integer", "", m.group(1).charAt(0), from, m.end(), false);
        }
        boolean hex = m.usePattern(HEX).lookingAt();
        if (!hex) {
            require(m.usePattern(DIGITS).lookingAt());
        }
        java.math.BigInteger value = new java.math.BigInteger(hex ? m.group(1) : m.group(), hex ? 16 : 10);
        require(value.bitLength() <= 31);
        return new Token("integer", "", value.longValue(), from, m.end(), false);
    }

    private Token peek(int ahead) {
        return tokens.get(Math.min(at + ahead, tokens.size() - 1));
    }

    private boolean sees(int ahead, String kind) {
        return peek(ahead).kind().equals(kind);
    }

    private boolean touches(int ahead, String kind) {
        return sees(ahead + 1, kind) && peek(ahead).end() == peek(ahead + 1).start();
    }

    private Token take(String kind) {
        require(sees(0, kind));
        at++;
        return tokens.get(at - 1);
    }

    private boolean begins(int ahead) {
        return !List.of("end", ")", "]", "}", ",", "|").contains(peek(ahead).kind());
    }

    private boolean negative(int ahead) {
        return sees(ahead, "name") && peek(ahead).name().equals("-") && !peek(ahead).quoted() && touches(ahead, "integer");
    }

    private Read term(int m, int deep) {
        require(deep <= levels);
        Read left = first(m, deep);
        while (sees(0, "name") || sees(0, ",")) {
            String name = peek(0).name();
            Operator o = others.get(name);
            if (o == null || o.priority() > m || left.priority() > o.left() || o.infix() && !begins(1)) {
                break;
            }
            at++;
            left = new Read(o.infix() ? compound(name, left.term(), term(o.right(), deep + 1).term())
                : compound(name, left.term()), o.priority());
        }
        return left;
    }

    private Read first(int m, int deep) {
        if (sees(0, "name") && !negative(0) && !touches(0, "(")) {
            Operator o = prefixes.get(peek(0).name());
            boolean blocked = sees(1, "name") && others.containsKey(peek(1).name())
                && !prefixes.containsKey(peek(1).name()) && !touches(1, "(") && !negative(1);
            if (o != null && o.priority() <= m && begins(1) && !blocked) {
                String name = take("name").name();
                return new Read(compound(name, term(o.right(), deep + 1).term()), o.priority());
            }
        }
        return new Read(simple(deep), 0);
    }

    private Term simple(int deep) {
        switch (peek(0).kind()) {
            case "integer":
                return integer(take("integer").value());
            case "variable":
                return variable(take("variable").name());
            case "string":
                String s = take("string").name();
                return list(s.chars().mapToObj(c -> integer(c)).toList(), compound("[]"));
            case "(":
                take("(");
                Term inner = term(1200, deep + 1).term();
                take(")");
                return inner;
            case "{":
                take("{");
                Term braced = term(1200, deep + 1).term();
                take("}");
                return compound("{}", braced);
            case "[":
                take("[");
                List<Term> elements = row(deep);
                Term end = compound("[]");
                if (sees(0, "|")) {
                    take("|");
                    end = term(999, deep + 1).term();
                }
                take("]");
                return list(elements, end);
            case "name":
                return named(deep);
            default:
                throw new IllegalArgumentException();
        }
    }

    private Term named(int deep) {
        if (negative(0)) {
            take("name");
            return integer(-take("integer").value());
        }
        boolean call = touches(0, "(");
        String name = take("name").name();
        if (!call) {
            return compound(name);
        }
        take("(");
        List<Term> arguments = row(deep);
        take(")");
        require(arguments.size() <= 6);
        return compound(name, arguments.toArray(new Term[0]));
    }

    private List<Term> row(int deep) {
        List<Term> row = new ArrayList<>(List.of(term(999, deep + 1).term()));
        while (sees(0, ",")) {
            take(",");
            row.add(term(999, deep + 1).term());
        }
        return row;
    }

    private static Term list(List<Term> elements, Term end) {
        return elements.isEmpty() ? end : compound(".", elements.get(0), list(elements.subList(1, elements.size()), end));
    }

    private static Term integer(long value) {
        Term t = new Term();
        t.value = value;
        return t;
    }

    private Term variable(String name) {
        Term t = new Term();
        nameless++;
        t.variable = name.equals("_") ? "nameless " + nameless : name;
        return t;
    }

    private static Term compound(String name, Term... arguments) {
        Term t = new Term();
        t.name = name;
        t.arguments = List.of(arguments);
        return t;
    }

    private Term of(int t) {
        if (t < 0 || t >= terms.size()) {
            throw new IndexOutOfBoundsException();
        }
        return terms.get(t);
    }

    int write(int t) {
        List<String> variables = new ArrayList<>();
        of(t).variables(variables);
        written = show(of(t), 1200, variables);
        return written.length();
    }

    private String show(Term t, int place, List<String> variables) {
        if (t.variable != null) {
            return "_" + variables.indexOf(t.variable);
        }
        if (t.value != null) {
            return String.valueOf(t.value);
        }
        Operator o = writer(t);
        if (o != null) {
            String all = operated(t, o, variables);
            return o.priority() > place ? "(" + all + ")" : all;
        }
        if (t.is(".", 2)) {
            String inner = show(t.arguments.get(0), 999, variables);
            Term rest = t.arguments.get(1);
            for (; rest.is(".", 2); rest = rest.arguments.get(1)) {
                inner += "," + show(rest.arguments.get(0), 999, variables);
            }
            return "[" + inner + (rest.is("[]", 0) ? "" : "|" + show(rest, 999, variables)) + "]";
        }
        if (t.is("{}", 1)) {
            return "{" + show(t.arguments.get(0), 1200, variables) + "}";
        }
        List<String> shown = t.arguments.stream().map(a -> show(a, 999, variables)).toList();
        return quoted(t.name) + (shown.isEmpty() ? "" : "(" + String.join(",", shown) + ")");
    }

    private Operator writer(Term t) {
        int arity = t.arguments.size();
        if (arity == 1 && prefixes.containsKey(t.name)) {
            return prefixes.get(t.name);
        }
        Operator o = others.get(t.name);
        return o != null && arity == (o.infix() ? 2 : 1) ? o : null;
    }

    private String operated(Term t, Operator o, List<String> variables) {
        Term first = t.arguments.get(0);
        if (o.type().startsWith("f")) {
            return t.name + " " + argument(first, o.right(), variables);
        }
        Operator inner = writer(first);
        boolean open = inner != null && inner.priority() == o.priority()
            && (inner.type().equals("xfy") || inner.type().equals("fy"));
        String left = open ? "(" + show(first, 1200, variables) + ")" : argument(first, o.left(), variables);
        if (!o.infix()) {
            return left + " " + t.name;
        }
        String right = argument(t.arguments.get(1), o.right(), variables);
        return t.name.equals(",") ? left + "," + right : left + " " + t.name + " " + right;
    }

    private String argument(Term t, int place, List<String> variables) {
        boolean operator = t.name != null && t.arguments.isEmpty()
            && (prefixes.containsKey(t.name) || others.containsKey(t.name));
        return operator ? "(" + quoted(t.name) + ")" : show(t, place, variables);
    }

    private static String quoted(String name) {
        if (PLAIN.matcher(name).matches()) {
            return name;
        }
        return "'" + name.replace("\\", "\\\\").replace("'", "\\'").replace("\n", "\\n").replace("\t", "\\t") + "'";
    }

    int written(int i) {
        return i >= 0 && i < written.length() ? written.charAt(i) : -1;
    }

    String allWritten() {
        return written;
    }

    boolean again() {
        if (written.length() > 117) {
            return false;
        }
        text = written + " . ";
        return true;
    }

    boolean alike(int t, int u) {
        return alike(of(t), of(u), new HashMap<>(), new HashMap<>());
    }

    private static boolean alike(Term t, Term u, Map<String, String> there, Map<String, String> back) {
        if (t.variable != null && u.variable != null) {
            there.putIfAbsent(t.variable, u.variable);
            back.putIfAbsent(u.variable, t.variable);
            return there.get(t.variable).equals(u.variable) && back.get(u.variable).equals(t.variable);
        }
        if (t.value != null && u.value != null) {
            return t.value.equals(u.value);
        }
        boolean same = t.name != null && t.name.equals(u.name) && t.arguments.size() == u.arguments.size();
        for (int i = 0; same && i < t.arguments.size(); i++) {
            same = alike(t.arguments.get(i), u.arguments.get(i), there, back);
        }
        return same;
    }

    int look(int t, int what) {
        Term term = of(t);
        int arity = term.arguments.size();
        switch (what) {
            case 0:
                return term.variable != null ? 0 : term.value != null ? 1 : arity == 0 ? 2 : 3;
            case 1:
                return arity;
            case 2:
                return term.variable != null ? 0 : term.value != null ? (int) (long) term.value : term.name.length();
            case 3:
                return term.depth();
            default:
                throw new IllegalArgumentException();
        }
    }

    int count(int what) {
        switch (what) {
            case 0:
                return text.length();
            case 1:
                return terms.size();
            case 2:
                return terms.stream().mapToInt(Term::parts).sum();
            case 3:
                return prefixes.size() + others.size() - 1;
            default:
                throw new IllegalArgumentException();
        }
    }
}
