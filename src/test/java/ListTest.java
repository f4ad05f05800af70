/** Promises 16 and 17: list and heading. */
public final class ListTest {
    private static final String LETTERS = "nam a   ";
    private static final Check CHECK = new Check("ListTest");

    private static RecordShelf shelfOf(String... texts) {
        RecordShelf shelf = new RecordShelf();
        for (String text : texts) {
            Texts.set(shelf, text);
            shelf.read();
        }
        shelf.cut(0);
        return shelf;
    }

    /** The list as a text: record, field and subfield of each heading. */
    private static String listed(RecordShelf shelf) {
        StringBuilder all = new StringBuilder();
        for (int k = 0; shelf.heading(k, 0) != RecordShelf.NONE; k++) {
            all.append(k == 0 ? "" : " ").append(shelf.heading(k, 0)).append(shelf.heading(k, 1)).append(shelf.heading(k, 2));
        }
        return all.toString();
    }

    private static void due(RecordShelf shelf, int tag, char code, String want) {
        int count = want.isEmpty() ? 0 : want.split(" ").length;
        CHECK.due("list(" + tag + ", " + code + ")", shelf.list(tag, code), count);
        CHECK.dueText("the headings of " + tag + " " + code, listed(shelf), want);
    }

    private static void orderOfKeys() {
        RecordShelf shelf = shelfOf(
            Texts.record(LETTERS, "50000$ab$a a$aa b$aA-C", "50000$aab$a9$a0z$a..."),
            Texts.record(LETTERS, "50000$aB$a$aa  b$a{A}", "50100$azzz"));
        // Keys: b, a, a b, a c | ab, 9, 0z, empty | b, empty, a b, a
        due(shelf, 500, 'a', "013 101 012 011 001 103 002 102 003 010 000 100");
        CHECK.due("heading behind the last", shelf.heading(12, 0), -1);
        CHECK.due("heading of what 3", shelf.heading(0, 3), -1);
        CHECK.due("heading of what -1", shelf.heading(0, -1), -1);
        CHECK.due("heading(-1, 0)", shelf.heading(-1, 0), -1);
        CHECK.due("heading(least, 0)", shelf.heading(Integer.MIN_VALUE, 0), -1);
        CHECK.due("heading(greatest, 2)", shelf.heading(Integer.MAX_VALUE, 2), -1);
    }

    private static void keys() {
        RecordShelf shelf = shelfOf(
            Texts.record(LETTERS, "50000$aThe  Whale$a~the whale!$athe-WHALE$aThe Whales"),
            Texts.record(LETTERS, "50000$athewhale$aAZ@[az`{$aaz az$a09/:09"));
        due(shelf, 500, '*', "103 101 102 000 001 002 003 100");
        String twenty = "q".repeat(20);
        shelf = shelfOf(Texts.record(LETTERS, "50000$a" + twenty + "$a" + twenty.substring(1) + "$a" + twenty + "$aAZ09 0"),
            Texts.record(LETTERS, "50000$a" + twenty + "$aaz09$aaZ09*"));
        due(shelf, 500, '*', "101 102 003 001 000 002 100");
    }

    private static void codesAndTags() {
        RecordShelf shelf = shelfOf(
            Texts.record(LETTERS, "001c", "24500$ac$bb$ca", "005q", "001b"),
            Texts.record(LETTERS, "24500$ba$bx$0m", "24600$aa", "001a"));
        due(shelf, 245, '*', "012 100 011 010 102 101");
        due(shelf, 245, 'a', "010");
        due(shelf, 245, 'b', "100 011 101");
        due(shelf, 245, '0', "102");
        due(shelf, 245, (char) 0, "");
        due(shelf, 245, 'z', "");
        due(shelf, 245, 'A', "");
        due(shelf, 245, (char) 0x161, "");
        due(shelf, 1, (char) 0, "120 030 000");
        due(shelf, 1, '*', "120 030 000");
        due(shelf, 1, 'a', "");
        due(shelf, 1, '0', "");
        due(shelf, 2, '*', "");
        due(shelf, 999, '*', "");
        due(shelf, 1, '*', "120 030 000");
        int[] wrongTags = {0, 1000, -1, Integer.MIN_VALUE, Integer.MAX_VALUE};
        for (int tag : wrongTags) {
            shelf.list(1, '*');
            CHECK.due("list of tag " + tag, shelf.list(tag, '*'), -1);
            CHECK.due("nothing is listed then", shelf.heading(0, 0), -1);
        }
    }

    private static void asItWas() {
        RecordShelf shelf = shelfOf(Texts.record(LETTERS, "50000$am$ac", "50000$ab$aq"));
        due(shelf, 500, 'a', "010 001 000 011");
        shelf.drop(0, 0);
        shelf.append(0, 0, 0, 'z');
        shelf.fresh();
        shelf.feed('x', 1);
        shelf.read();
        CHECK.dueText("the list as it was", listed(shelf), "010 001 000 011");
        due(shelf, 500, 'a', "000 001");
        shelf.drop(0, 0);
        CHECK.dueText("the list as it was, with no field left", listed(shelf), "000 001");
        due(shelf, 500, 'a', "");
    }

    private static void keysThatGrow() {
        RecordShelf shelf = new RecordShelf();
        shelf.fresh();
        shelf.field(0, 50, ' ', ' ');
        shelf.field(0, 50, ' ', ' ');
        Texts.append(shelf, 0, 0, 0, "a-");
        Texts.append(shelf, 0, 1, 0, "a");
        due(shelf, 50, 'a', "000 010");
        shelf.append(0, 0, 0, 'b');
        due(shelf, 50, 'a', "010 000");
        Texts.append(shelf, 0, 1, 0, "b");
        due(shelf, 50, 'a', "000 010");
        shelf.drop(0, 0);
        shelf.field(0, 50, ' ', ' ');
        due(shelf, 50, 'a', "010 000");
        Texts.append(shelf, 0, 1, 0, "z");
        due(shelf, 50, 'a', "000 010");
    }

    /** A record of 8 * 4 subfields; the keys of two fields are alike, and lesser the later they come. */
    private static String fullRecord() {
        String[] fields = new String[8];
        for (int i = 0; i < 8; i++) {
            char c = (char) ('z' - i / 2);
            fields[i] = "70000$a" + c + "$b" + c + "$c" + c + "$d" + c;
        }
        return Texts.record(LETTERS, fields);
    }

    private static void allHeadings() {
        String text = fullRecord();
        RecordShelf shelf = shelfOf(text);
        shelf.write(0);
        for (int record = 1; record < 6; record++) {
            CHECK.due("read() of a full record", shelf.read(), record);
        }
        CHECK.due("all headings", shelf.list(700, '*'), 192);
        for (int k = 0; k < 192; k++) {
            CHECK.due("record of heading " + k, shelf.heading(k, 0), k / 8 % 6);
            if (k % 3 == 0) {
                CHECK.due("field of heading " + k, shelf.heading(k, 1), 6 - k / 48 * 2 + k / 4 % 2);
                CHECK.due("subfield of heading " + k, shelf.heading(k, 2), k % 4);
            }
        }
        CHECK.due("heading 192", shelf.heading(192, 0), -1);
        CHECK.due("all headings of a code", shelf.list(700, 'c'), 48);
        CHECK.due("heading 48", shelf.heading(48, 0), -1);
        CHECK.due("heading 47", shelf.heading(47, 1), 1);
    }

    public static void main(String[] args) {
        orderOfKeys();
        keys();
        codesAndTags();
        asItWas();
        keysThatGrow();
        allHeadings();
        CHECK.end();
    }
}
