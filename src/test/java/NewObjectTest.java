/** Promise 1. */
public final class NewObjectTest {
    public static void main(String[] args) {
        TermReader x = new TermReader();
        Due.same("count(0)", x.count(0), 0);
        Due.same("count(1)", x.count(1), 0);
        Due.same("count(2)", x.count(2), 0);
        Due.same("count(3)", x.count(3), 14);
        Due.same("written(0)", x.written(0), -1);
        Due.same("write(0)", Due.write(x, 0), "throws IndexOutOfBoundsException");
        Due.same("read()", Due.read(x), "throws IllegalArgumentException");
        firstOperators();
        Due.close();
    }

    /** Each with what its priority and type make of two of them, or of it and a neighbour. */
    private static void firstOperators() {
        Due.reads("a:-b.", "a :- b");
        Due.isError("a:-b:-c.");
        Due.reads(":-a.", ":- a");
        Due.isError(":- :- a.");
        Due.reads("a;b;c.", "a ; b ; c");
        Due.reads("(a;b);c.", "(a ; b) ; c");
        Due.reads("a->b->c;d.", "a -> b -> c ; d");
        Due.reads("(a->b)->c.", "(a -> b) -> c");
        Due.reads("a,b->c,d.", "a,b -> c,d");
        Due.reads("(a,b),c.", "(a,b),c");
        Due.reads("a,(b,c).", "a,b,c");
        Due.reads("\\+ \\+ a,b.", "\\+ \\+ a,b");
        Due.reads("\\+ (a,b).", "\\+ (a,b)");
        Due.reads("\\+ a=b.", "\\+ a = b");
        Due.isError("a=b=c.");
        Due.isError("a<b=c.");
        Due.isError("a is b<c.");
        Due.reads("X is 1+2<Y,_.", "throws IllegalArgumentException");
        Due.reads("X is 1+2-3.", "_0 is 1 + 2 - 3");
        Due.reads("1-(2+3).", "1 - (2 + 3)");
        Due.reads("1*2/3+4.", "1 * 2 / 3 + 4");
        Due.reads("1/(2*3).", "1 / (2 * 3)");
        Due.reads("(1+2)*3.", "(1 + 2) * 3");
        Due.reads("a^b^c.", "a ^ b ^ c");
        Due.reads("(a^b)^c*d.", "(a ^ b) ^ c * d");
        Due.reads("- - a^b.", "- - a ^ b");
        Due.reads("(- a)^b.", "(- a) ^ b");
        Due.reads("-(a)^b.", "(- a) ^ b");
        Due.reads("- a*b.", "- a * b");
        Due.reads("-(a*b).", "- (a * b)");
    }
}
