/** Promise 18: find. */
public final class FindTest {
    private static final String LETTERS = "nam a   ";
    private static final int IS = 0;
    private static final int BEGINS = 1;
    private static final int HAS = 2;
    private static final Check CHECK = new Check("FindTest");

    private static RecordShelf shelf() {
        RecordShelf shelf = new RecordShelf();
        String[] texts = {
            Texts.record(LETTERS, "001Moby", "24510$aMoby-Dick, or$bthe whale"),
            Texts.record(LETTERS, "24510$aThe WHALE!$c", "00542"),
            Texts.record(LETTERS, "24610$athe whales sing$9whale"),
            Texts.record(LETTERS),
            Texts.record(LETTERS, "24510$aabab ab abc$b- -", "24510$bmoby"),
            Texts.record(LETTERS, "24510$awhale the whale$zThe")
        };
        for (String text : texts) {
            Texts.set(shelf, text);
            shelf.read();
        }
        return shelf;
    }

    private static void due(String text, int tag, char code, int how, int want) {
        due(shelf(), text, tag, code, how, want);
    }

    private static void due(RecordShelf shelf, String text, int tag, char code, int how, int want) {
        Texts.set(shelf, text);
        CHECK.due("find(" + tag + ", " + code + ", " + how + ") of '" + text + "'", shelf.find(tag, code, how), want);
        CHECK.dueText("the text after find", Texts.get(shelf), text);
    }

    private static void whole() {
        due("the whale", 0, '*', IS, 1 | 2);
        due(" .The--Whale?", 245, '*', IS, 1 | 2);
        due("the whale", 245, 'a', IS, 2);
        due("the whale", 245, 'b', IS, 1);
        due("thewhale", 0, '*', IS, 0);
        due("the", 0, '*', IS, 32);
        due("the", 0, 'a', IS, 0);
        due("moby", 0, '*', IS, 1 | 16);
        due("moby", 0, (char) 0, IS, 1);
        due("MOBY", 1, (char) 0, IS, 1);
        due("moby", 1, 'a', IS, 0);
        due("moby", 999, '*', IS, 0);
        due("42", 5, '*', IS, 2);
        due("whale", 246, '9', IS, 4);
        due("", 0, '*', IS, 2 | 16);
        due("- \u001d\u001e\u001f ", 0, 'c', IS, 2);
        due("the\u001fwhale\u001e\u001d", 0, 'a', IS, 2);
    }

    private static void beginnings() {
        due("the whale", 0, '*', BEGINS, 1 | 2 | 4);
        due("the w", 0, 'a', BEGINS, 2 | 4);
        due("t", 0, '*', BEGINS, 1 | 2 | 4 | 32);
        due("hale", 0, '*', BEGINS, 0);
        due("", 0, '*', BEGINS, 1 | 2 | 4 | 16 | 32);
        due("", 245, 'c', BEGINS, 2);
        due("", 7, '*', BEGINS, 0);
        due("", 0, 'A', BEGINS, 0);
        due("the whales sing on", 0, '*', BEGINS, 0);
        due("x".repeat(300), 0, '*', BEGINS, 0);
    }

    private static void words() {
        due("whale", 0, '*', HAS, 1 | 2 | 4 | 32);
        due("whale", 0, 'a', HAS, 2 | 32);
        due("the", 0, '*', HAS, 1 | 2 | 4 | 32);
        due("the whale", 0, 'a', HAS, 2 | 32);
        due("dick or", 0, '*', HAS, 1);
        due("dic", 0, '*', HAS, 0);
        due("ick", 0, '*', HAS, 0);
        due("ab", 0, '*', HAS, 16);
        due("abab", 0, '*', HAS, 16);
        due("ab abc", 0, '*', HAS, 16);
        due("ab ab", 0, '*', HAS, 0);
        due("abc", 0, '*', HAS, 16);
        due("bab", 0, '*', HAS, 0);
        due("s", 0, '*', HAS, 0);
        due("4", 0, '*', HAS, 0);
        due("", 0, '*', HAS, 2 | 16);
        due("?!", 0, 'a', HAS, 0);
        due("", 0, 'b', HAS, 16);
        due("x".repeat(300), 0, '*', HAS, 0);
    }

    private static void wrongInputs() {
        int[] wrongTags = {-1, 1000, Integer.MIN_VALUE, Integer.MAX_VALUE};
        int[] wrongHows = {-1, 3, 4, Integer.MIN_VALUE, Integer.MAX_VALUE};
        for (int tag : wrongTags) {
            due("whale", tag, '*', HAS, -1);
        }
        for (int how : wrongHows) {
            due("whale", 0, '*', how, -1);
        }
        due("whale", 0, (char) 0x12A, HAS, 0);
        due("whale", 0, (char) 0xFFFF, HAS, 0);
    }

    private static void listStays() {
        RecordShelf shelf = shelf();
        CHECK.due("list(246, 9)", shelf.list(246, '9'), 1);
        due(shelf, "moby", 0, '*', IS, 1 | 16);
        CHECK.due("the list stays", shelf.heading(0, 0), 2);
        CHECK.due("with its subfield", shelf.heading(0, 2), 1);
        shelf.drop(2, 0);
        due(shelf, "whale", 246, '*', HAS, 0);
        due(shelf, "", 0, '*', BEGINS, 1 | 2 | 16 | 32);
    }

    private static void keysThatGrow() {
        RecordShelf shelf = new RecordShelf();
        shelf.fresh();
        shelf.field(0, 50, ' ', ' ');
        Texts.append(shelf, 0, 0, 0, "Z a;");
        due(shelf, "z", 50, 'a', HAS, 1);
        due(shelf, "a", 50, 'a', HAS, 1);
        due(shelf, "z a", 50, 'a', IS, 1);
        Texts.append(shelf, 0, 0, 0, ",b");
        due(shelf, "z a", 50, 'a', IS, 0);
        due(shelf, "z a b", 50, 'a', IS, 1);
        due(shelf, "a", 50, 'a', HAS, 1);
        shelf.drop(0, 0);
        shelf.field(0, 50, ' ', ' ');
        Texts.append(shelf, 0, 0, 0, "z");
        due(shelf, "z a", 50, 'a', BEGINS, 0);
        due(shelf, "z", 50, 'a', IS, 1);
    }

    public static void main(String[] args) {
        whole();
        beginnings();
        words();
        wrongInputs();
        listStays();
        keysThatGrow();
        CHECK.end();
    }
}
