import java.util.ArrayList;
import java.util.Arrays;
import java.util.List;

/**
 * The document's first sentence, without chance: every term of up to four parts over two names, by every
 * way in which these two can be operators of the same or of neighbouring priorities, is written so that
 * it reads as the same term. None of them is deep or long enough to be excused.
 */
public final class SameTermTest {
    private static final String[] NAMES = {"p", "-"};
    private static final String[] SMALLEST = {"1", "-1", "p", "-", "a"};
    private static final int[] PREFIX_TYPES = {3, 4};
    private static final int[] BEHIND_TYPES = {0, 1, 2, 5, 6};
    private static final int TERMS_MOST = 40;

    private final List<List<String>> bySize = new ArrayList<>();

    public static void main(String[] args) {
        Due.says("what is written reads as the same term");
        SameTermTest all = new SameTermTest();
        all.judgeTables(all.texts(4));
        Due.close();
    }

    /** Names with their arguments, which read as the same terms by whatever operators. */
    private List<String> texts(int greatest) {
        List<String> texts = new ArrayList<>();
        bySize.add(List.of());
        for (int size = 1; size <= greatest; size++) {
            bySize.add(textsOf(size));
            texts.addAll(bySize.get(size));
        }
        return texts;
    }

    private List<String> textsOf(int size) {
        if (size == 1) {
            return List.of(SMALLEST);
        }
        List<String> texts = new ArrayList<>();
        for (String name : NAMES) {
            for (String argument : bySize.get(size - 1)) {
                texts.add(name + "(" + argument + ")");
            }
            for (int left = 1; left < size - 1; left++) {
                for (String first : bySize.get(left)) {
                    for (String second : bySize.get(size - 1 - left)) {
                        texts.add(name + "(" + first + "," + second + ")");
                    }
                }
            }
        }
        return texts;
    }

    /** Each is a priority and a type; the first is no operator. */
    private static List<int[]> ways(int[] types, int... priorities) {
        List<int[]> ways = new ArrayList<>();
        ways.add(new int[] {0, types[0]});
        for (int priority : priorities) {
            for (int type : types) {
                ways.add(new int[] {priority, type});
            }
        }
        return ways;
    }

    private void judgeTables(List<String> texts) {
        for (int[] prefix : ways(PREFIX_TYPES, 200)) {
            for (int[] behind : ways(BEHIND_TYPES, 200)) {
                for (int[] minusPrefix : ways(PREFIX_TYPES, 200, 201)) {
                    for (int[] minusBehind : ways(BEHIND_TYPES, 200, 201)) {
                        judgeTexts(texts, prefix, behind, minusPrefix, minusBehind);
                    }
                }
            }
        }
    }

    private void judgeTexts(List<String> texts, int[]... table) {
        TermReader x = readerWith(table);
        for (String text : texts) {
            if (x.count(1) + 2 > TERMS_MOST) {
                x = readerWith(table);
            }
            judge(x, text, table);
        }
    }

    private static TermReader readerWith(int[][] table) {
        TermReader x = new TermReader();
        x.op(0, 3, Due.packed("-"));
        x.op(0, 2, Due.packed("-"));
        for (int i = 0; i < table.length; i++) {
            x.op(table[i][0], table[i][1], Due.packed(NAMES[i / 2]));
        }
        return x;
    }

    private static void judge(TermReader x, String text, int[][] table) {
        Due.put(x, text + " .");
        int t = x.read();
        x.write(t);
        boolean isText = x.again();
        String again = isText ? Due.read(x) : "too long";
        boolean same = again.equals(String.valueOf(t + 1)) && x.alike(t, t + 1);
        // The words are put together only for a wrong answer: there are some 400,000 right ones.
        String what = same ? text : text + ", written " + Due.write(x, t) + ", by " + Arrays.deepToString(table);
        Due.same(what, same, true);
    }
}
