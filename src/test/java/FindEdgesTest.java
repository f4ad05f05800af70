/** The boundary cases of promise 18, each sentence by itself. */
public final class FindEdgesTest {
    private static final int NONE = RecordShelf.NONE;
    private static final int LEAST = Integer.MIN_VALUE;
    private static final int GREATEST = Integer.MAX_VALUE;
    private static final int IS = 0;
    private static final int BEGINS = 1;
    private static final int HAS = 2;
    private static final String LETTERS = "nam a   ";
    private static final char ANY = '*';
    private static final Check CHECK = new Check("FindEdgesTest");

    private static RecordShelf shelfOf(String... texts) {
        RecordShelf shelf = new RecordShelf();
        for (String text : texts) {
            Texts.set(shelf, text);
            shelf.read();
        }
        shelf.cut(0);
        return shelf;
    }

    private static void due(RecordShelf shelf, String searched, int how, int want) {
        due(shelf, searched, 0, ANY, how, want);
    }

    private static void due(RecordShelf shelf, String searched, int tag, char code, int how, int want) {
        Texts.set(shelf, searched);
        CHECK.due("find(" + tag + ", " + (int) code + ", " + how + ") of " + Texts.visible(searched),
            shelf.find(tag, code, how), want);
        CHECK.due("the text stays", shelf.cut(600), searched.length());
    }

    private static RecordShelf everyTag() {
        return shelfOf(Texts.record(LETTERS, "001q"), Texts.record(LETTERS, "009q"), Texts.record(LETTERS, "01000$aq"),
            Texts.record(LETTERS, "00500", "99900$aq"), Texts.record(LETTERS));
    }

    private static void tags() {
        CHECK.says("The records that have a field with this tag (any tag, if it is 0)");
        RecordShelf shelf = everyTag();
        for (int how = IS; how <= HAS; how++) {
            due(shelf, "q", 0, ANY, how, 15);
            due(shelf, "q", 1, ANY, how, 1);
            due(shelf, "q", 2, ANY, how, 0);
            due(shelf, "q", 5, ANY, how, 0);
            due(shelf, "q", 9, ANY, how, 2);
            due(shelf, "q", 10, ANY, how, 4);
            due(shelf, "q", 11, ANY, how, 0);
            due(shelf, "q", 998, ANY, how, 0);
            due(shelf, "q", 999, ANY, how, 8);
        }
    }

    private static void noTags() {
        CHECK.says("NONE when how or tag is none of these.");
        RecordShelf shelf = everyTag();
        int[] wrong = {LEAST, LEAST + 1, -999, -1, 1000, 1001, 65536, GREATEST};
        for (int tag : wrong) {
            for (int how = IS; how <= HAS; how++) {
                due(shelf, "q", tag, ANY, how, NONE);
            }
        }
    }

    private static void noHows() {
        CHECK.says("NONE when how or tag is none of these.");
        RecordShelf shelf = shelfOf(Texts.record(LETTERS, "001q"));
        int[] wrong = {LEAST, LEAST + 1, -2, -1, 3, 4, 256, 65536, GREATEST};
        for (int how : wrong) {
            due(shelf, "q", 0, ANY, how, NONE);
            due(shelf, "q", 1, (char) 0, how, NONE);
            due(shelf, "", 999, 'a', how, NONE);
            due(shelf, "q", 1000, ANY, how, NONE);
        }
        CHECK.due("on an empty shelf too", new RecordShelf().find(0, ANY, 3), NONE);
        CHECK.due("and with a wrong tag", new RecordShelf().find(-1, ANY, 0), NONE);
    }

    private static void codes() {
        CHECK.says("with a subfield with this code (as for list())");
        RecordShelf shelf = shelfOf(Texts.record(LETTERS, "001q"), Texts.record(LETTERS, "01000$aq"),
            Texts.record(LETTERS, "01000$zq"), Texts.record(LETTERS, "01000$x$0q"), Texts.record(LETTERS, "01000$x$x$x$9q"));
        due(shelf, "q", 0, ANY, IS, 31);
        due(shelf, "q", 0, (char) 0, IS, 1);
        due(shelf, "q", 1, (char) 0, IS, 1);
        due(shelf, "q", 10, (char) 0, IS, 0);
        due(shelf, "q", 0, 'a', IS, 2);
        due(shelf, "q", 1, 'a', IS, 0);
        due(shelf, "q", 0, 'z', IS, 4);
        due(shelf, "q", 0, '0', IS, 8);
        due(shelf, "q", 0, '9', IS, 16);
        due(shelf, "q", 0, 'x', IS, 0);
        char[] noCodes = {1, ' ', ')', '+', '/', ':', 'A', 'Z', '`', '{', 127, 255, 256, 0x12A, 0x161, 0x130, 0x7FFF,
            Character.MAX_VALUE};
        for (char code : noCodes) {
            due(shelf, "", 0, code, BEGINS, 0);
        }
    }

    private static void sums() {
        CHECK.says("Answers the sum of 2^record");
        CHECK.due("on an empty shelf", new RecordShelf().find(0, ANY, BEGINS), 0);
        RecordShelf shelf = new RecordShelf();
        for (int record = 0; record < 6; record++) {
            shelf.fresh();
            CHECK.due("without fields", shelf.find(0, ANY, BEGINS), (1 << record) - 1);
            shelf.field(record, 10 + record, ' ', ' ');
            CHECK.due("up to " + record, shelf.find(0, ANY, BEGINS), (2 << record) - 1);
            CHECK.due("only " + record, shelf.find(10 + record, ANY, BEGINS), 1 << record);
        }
        CHECK.due("all six", shelf.find(0, ANY, BEGINS), 63);
        shelf.field(5, 15, ' ', ' ');
        CHECK.due("a record counts once", shelf.find(0, ANY, BEGINS), 63);
        shelf.drop(0, 0);
        CHECK.due("all but the first", shelf.find(0, ANY, BEGINS), 62);
        shelf.drop(5, 0);
        CHECK.due("the last one has another field yet", shelf.find(0, ANY, BEGINS), 62);
        shelf.drop(5, 0);
        CHECK.due("nor the last one", shelf.find(0, ANY, BEGINS), 30);
    }

    private static void is() {
        CHECK.says("is t (how = 0)");
        RecordShelf shelf = shelfOf(Texts.record(LETTERS, "001Ab 9"), Texts.record(LETTERS, "001"),
            Texts.record(LETTERS, "001 - "), Texts.record(LETTERS, "001abcdefghij0123456789"));
        due(shelf, "ab 9", IS, 1);
        due(shelf, "ab", IS, 0);
        due(shelf, "ab 99", IS, 0);
        due(shelf, "b 9", IS, 0);
        due(shelf, "ab9", IS, 0);
        due(shelf, "", IS, 6);
        due(shelf, "?", IS, 6);
        due(shelf, "ABCDEFGHIJ0123456789", IS, 8);
        due(shelf, "ABCDEFGHIJ012345678", IS, 0);
        due(shelf, "ABCDEFGHIJ01234567890", IS, 0);
        due(shelf, " ".repeat(596) + "AB:9", IS, 1);
        due(shelf, "a".repeat(600), IS, 0);
    }

    private static void begins() {
        CHECK.says("begins with t (1)");
        RecordShelf shelf = shelfOf(Texts.record(LETTERS, "001Ab 9"), Texts.record(LETTERS, "001"),
            Texts.record(LETTERS, "001 - "), Texts.record(LETTERS, "001abcdefghij0123456789"), Texts.record(LETTERS));
        due(shelf, "", BEGINS, 15);
        due(shelf, "- -", BEGINS, 15);
        due(shelf, "a", BEGINS, 9);
        due(shelf, "ab", BEGINS, 9);
        due(shelf, "ab ", BEGINS, 9);
        due(shelf, "ab 9", BEGINS, 1);
        due(shelf, "ab 99", BEGINS, 0);
        due(shelf, "b", BEGINS, 0);
        due(shelf, "abcdefghij012345678", BEGINS, 8);
        due(shelf, "abcdefghij0123456789", BEGINS, 8);
        due(shelf, "abcdefghij0123456789a", BEGINS, 0);
        due(shelf, "a".repeat(600), BEGINS, 0);
    }

    private static void has() {
        CHECK.says("has t in it, with nothing or a space before it and behind it");
        RecordShelf shelf = shelfOf(Texts.record(LETTERS, "001ab cd ef"), Texts.record(LETTERS, "001xab cdx ef"),
            Texts.record(LETTERS, "001ab"), Texts.record(LETTERS, "001aba ab aab ab"), Texts.record(LETTERS, "001a b"));
        due(shelf, "ab", HAS, 1 | 4 | 8);
        due(shelf, "cd", HAS, 1);
        due(shelf, "ef", HAS, 1 | 2);
        due(shelf, "ab cd", HAS, 1);
        due(shelf, "cd ef", HAS, 1);
        due(shelf, "ab cd ef", HAS, 1);
        due(shelf, "ab ef", HAS, 0);
        due(shelf, "a", HAS, 16);
        due(shelf, "b", HAS, 16);
        due(shelf, "a b", HAS, 16);
        due(shelf, "d", HAS, 0);
        due(shelf, "c", HAS, 0);
        due(shelf, "aab", HAS, 8);
        due(shelf, "ab aab ab", HAS, 8);
        due(shelf, "ab cd ef g", HAS, 0);
        due(shelf, "x".repeat(600), HAS, 0);
        due(shelf, "x ".repeat(300), HAS, 0);
        RecordShelf twenty = shelfOf(Texts.record(LETTERS, "001abcdefghi x 12345679"));
        due(twenty, "abcdefghi", HAS, 1);
        due(twenty, "12345679", HAS, 1);
        due(twenty, "2345679", HAS, 0);
        due(twenty, "1234567", HAS, 0);
        due(twenty, "x", HAS, 1);
        due(twenty, "abcdefghi x 12345679", HAS, 1);
        due(twenty, "abcdefghi x 12345679 a", HAS, 0);
    }

    private static void emptyText() {
        CHECK.says("when t is empty: just when its key is empty");
        RecordShelf shelf = shelfOf(Texts.record(LETTERS, "001"), Texts.record(LETTERS, "001a b"),
            Texts.record(LETTERS, "01000$aa$b-"), Texts.record(LETTERS), Texts.record(LETTERS, "01000$b"));
        due(shelf, "", HAS, 1 | 4 | 16);
        due(shelf, " ", HAS, 1 | 4 | 16);
        due(shelf, "\u001d\u001e\u001f".repeat(200), HAS, 1 | 4 | 16);
        due(shelf, "", 0, 'a', HAS, 0);
        due(shelf, "", 0, 'b', HAS, 4 | 16);
        due(shelf, "", 1, ANY, HAS, 1);
        due(shelf, "a", HAS, 2 | 4);
        due(shelf, "", IS, 1 | 4 | 16);
        due(shelf, "", BEGINS, 1 | 2 | 4 | 16);
    }

    public static void main(String[] args) {
        tags();
        noTags();
        noHows();
        codes();
        sums();
        is();
        begins();
        has();
        emptyText();
        CHECK.end();
    }
}
