/** The boundary cases of THE KEY, each sentence by itself, as list() and find() tell them. */
public final class KeyEdgesTest {
    private static final int IS = 0;
    private static final Check CHECK = new Check("KeyEdgesTest");

    /** Whether a subfield with this text has the key of a searched text, by find(). */
    private static boolean same(String subfield, String searched) {
        RecordShelf shelf = new RecordShelf();
        shelf.fresh();
        shelf.field(0, 10, ' ', ' ');
        Texts.append(shelf, 0, 0, 0, subfield);
        Texts.feed(shelf, searched);
        int found = shelf.find(10, 'a', IS);
        CHECK.due("find() is 0 or 1", found == 0 || found == 1, true);
        return found == 1;
    }

    private static void due(String subfield, String searched, boolean want) {
        CHECK.due("the key of " + Texts.visible(subfield) + " is that of " + Texts.visible(searched),
            same(subfield, searched), want);
    }

    private static boolean counts(char c) {
        return c >= 'a' && c <= 'z' || c >= 'A' && c <= 'Z' || c >= '0' && c <= '9';
    }

    private static void lettersAndDigits() {
        CHECK.says("its letters and digits, capital letters as small ones, each run of other characters as one space");
        for (char c = 32; c <= 126; c++) {
            String small = ("x" + c + "y").toLowerCase(java.util.Locale.ROOT);
            due("x" + c + "y", "x y", !counts(c));
            due("x" + c + "y", small, true);
            due("x" + c + "y", "xy", false);
        }
        for (char c = 29; c <= 126; c++) {
            due("x y", "x" + c + "y", !counts(c));
            due("xy", "x" + c + "y", false);
        }
        for (char c = 'A'; c <= 'Z'; c++) {
            String capital = "" + c;
            String small = "" + (char) (c + 32);
            due(capital, small, true);
            due(small, capital, true);
            due(capital, capital, true);
            due(capital, "" + (char) (c == 'Z' ? 'a' : c + 33), false);
        }
        for (char c = '0'; c <= '9'; c++) {
            due("" + c, "" + c, true);
            due("" + c, "" + (char) (c == '9' ? '0' : c + 1), false);
        }
    }

    private static void runs() {
        CHECK.says("each run of other characters as one space");
        for (int n = 1; n <= 18; n++) {
            due("x" + "-".repeat(n) + "y", "x y", true);
            due("x" + " ".repeat(n) + "y", "x y", true);
        }
        due("x y", "x" + "?".repeat(598) + "y", true);
        due("x !\"#/:;@[`{|}~ y", "x\u001d\u001e\u001fy", true);
        due("x y z", "x--y", false);
        due("x y z", "x-y-z", true);
        due("x y z", "x-yz", false);
    }

    private static void beginningAndEnd() {
        CHECK.says("without spaces at the beginning and the end");
        String[] around = {"", " ", "-", "  ", "?! ", "\u001f"};
        for (String before : around) {
            for (String behind : around) {
                due("x", before + "x" + behind, true);
                due("", before + behind, true);
                due("x", before + behind, false);
                if (!before.equals("\u001f") && !behind.equals("\u001f")) {
                    due(before + "x" + behind, "x", true);
                    due(before + behind, "", true);
                    due(before + behind, "x", false);
                }
            }
        }
        due(" ".repeat(19) + "x", "x", true);
        due("x" + " ".repeat(19), "x", true);
        due(" ".repeat(20), "", true);
        due("", " ".repeat(600), true);
        due("", "", true);
        due("x", " ".repeat(599) + "x", true);
        due("x", "x" + " ".repeat(599), true);
    }

    private static void lengths() {
        CHECK.says("THE KEY of a text: its letters and digits");
        String twenty = "abcdefghij0123456789";
        due(twenty, twenty, true);
        due(twenty, twenty.substring(0, 19), false);
        due(twenty, twenty + "a", false);
        due(twenty, twenty + "-", true);
        due(twenty, "a".repeat(600), false);
        due("a b c d e f g h i j ", "a b c d e f g h i j", true);
        due("a b c d e f g h i j ", "a b c d e f g h i jk", false);
    }

    private static int before(String one, String other) {
        RecordShelf shelf = new RecordShelf();
        shelf.fresh();
        shelf.field(0, 10, ' ', ' ');
        shelf.subfield(0, 0, 'a');
        Texts.append(shelf, 0, 0, 0, one);
        Texts.append(shelf, 0, 0, 1, other);
        CHECK.due("list() of two", shelf.list(10, '*'), 2);
        int first = shelf.heading(0, 2);
        CHECK.due("the other heading", shelf.heading(1, 2), 1 - first);
        return first;
    }

    private static void order() {
        CHECK.says("Keys are compared character by character (a space comes before digits, digits before letters), "
            + "a key that another one begins with before that one.");
        String[] inOrder = {"", "0", "0 0", "0 9", "0 a", "00", "09", "0a", "0z", "1", "9", "9z", "a", "A 0", "a-A", "a0",
            "a9", "AA", "ab", "aZ", "b", "Z", "z z", "z9", "ZZ", "zzzzzzzzzzzzzzzzzzz", "zzzzzzzzzzzzzzzzzzz0",
            "zzzzzzzzzzzzzzzzzzzz"};
        for (int i = 0; i < inOrder.length; i++) {
            for (int j = i + 1; j < inOrder.length; j++) {
                CHECK.due("'" + inOrder[i] + "' and '" + inOrder[j] + "'", before(inOrder[i], inOrder[j]), 0);
                CHECK.due("'" + inOrder[j] + "' and '" + inOrder[i] + "'", before(inOrder[j], inOrder[i]), 1);
            }
            CHECK.due("'" + inOrder[i] + "' twice", before(inOrder[i], inOrder[i]), 0);
        }
    }

    public static void main(String[] args) {
        lettersAndDigits();
        runs();
        beginningAndEnd();
        lengths();
        order();
        CHECK.end();
    }
}
