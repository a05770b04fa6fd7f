/** Promise 2. */
public final class TextTest {
    public static void main(String[] args) {
        TermReader x = new TermReader();
        Due.same("text of 0", x.text(0L), false);
        Due.same("text with the lowest byte 0", x.text(0x6100L), false);
        Due.same("text with 31", x.text(0x1f61L), false);
        Due.same("text with 127", x.text(0x7f61L), false);
        Due.same("text with 128", x.text(0x8061L), false);
        Due.same("text of -1", x.text(-1L), false);
        Due.same("a last byte that is none", x.text(0x8061616161616161L), false);
        Due.same("count(0)", x.count(0), 0);
        Due.same("text of 32", x.text(0x20L), true);
        Due.same("text of 126", x.text(0x7eL), true);
        Due.same("count(0)", x.count(0), 2);
        Due.same("read()", Due.read(x), "throws IllegalArgumentException");
        order();
        most();
        Due.close();
    }

    private static void order() {
        TermReader x = new TermReader();
        Due.same("eight characters", x.text(Due.packed("abcdefgh")), true);
        // Behind the zero byte stands what would be refused.
        Due.same("up to a zero byte", x.text(0xff00L << 8 | Due.packed("i.")), false);
        Due.same("up to a zero byte", x.text(0xff00L << 16 | Due.packed("i.")), true);
        Due.same("count(0)", x.count(0), 10);
        Due.same("read()", Due.read(x), "0");
        Due.same("write(0)", Due.write(x, 0), "abcdefghi");
    }

    private static void most() {
        TermReader x = new TermReader();
        for (int i = 0; i < 14; i++) {
            Due.same("text", x.text(Due.packed("        ")), true);
        }
        Due.same("119 characters", x.text(Due.packed("       ")), true);
        Due.same("121 characters", x.text(Due.packed("a.")), false);
        Due.same("count(0)", x.count(0), 119);
        Due.same("120 characters", x.text(Due.packed("a")), true);
        Due.same("121 characters", x.text(Due.packed(".")), false);
        Due.same("count(0)", x.count(0), 120);
    }
}
