/** The boundary cases of promises 16 and 17, each sentence by itself. */
public final class ListEdgesTest {
    private static final int NONE = RecordShelf.NONE;
    private static final int LEAST = Integer.MIN_VALUE;
    private static final int GREATEST = Integer.MAX_VALUE;
    private static final String LETTERS = "nam a   ";
    private static final char ANY = '*';
    private static final Check CHECK = new Check("ListEdgesTest");

    private static RecordShelf shelfOf(String... texts) {
        RecordShelf shelf = new RecordShelf();
        for (String text : texts) {
            Texts.set(shelf, text);
            shelf.read();
        }
        return shelf;
    }

    /** The headings as a text: record, field and subfield of each. */
    private static String listed(RecordShelf shelf) {
        StringBuilder all = new StringBuilder();
        for (int k = 0; shelf.heading(k, 0) != NONE; k++) {
            all.append(k == 0 ? "" : " ").append(shelf.heading(k, 0)).append(shelf.heading(k, 1)).append(shelf.heading(k, 2));
        }
        return all.toString();
    }

    private static void due(RecordShelf shelf, int tag, char code, String want) {
        int count = want.isEmpty() ? 0 : want.split(" ").length;
        CHECK.due("list(" + tag + ", " + (int) code + ")", shelf.list(tag, code), count);
        CHECK.dueText("the headings of " + tag + ", " + (int) code, listed(shelf), want);
    }

    private static RecordShelf everyTag() {
        return shelfOf(Texts.record(LETTERS, "001a", "009b", "01000$ac", "99900$ad"),
            Texts.record(LETTERS, "99900$az", "009a"));
    }

    private static void tags() {
        CHECK.says("all subfields of all records whose fields have this tag");
        RecordShelf shelf = everyTag();
        due(shelf, 1, ANY, "000");
        due(shelf, 2, ANY, "");
        due(shelf, 9, ANY, "110 010");
        due(shelf, 10, ANY, "020");
        due(shelf, 11, ANY, "");
        due(shelf, 998, ANY, "");
        due(shelf, 999, ANY, "030 100");
    }

    private static void noTags() {
        CHECK.says("NONE when tag is not 1 .. 999 (and nothing is listed then).");
        RecordShelf shelf = everyTag();
        int[] wrong = {LEAST, LEAST + 1, -999, -1, 0, 1000, 1001, 65537, GREATEST};
        for (int tag : wrong) {
            due(shelf, 1, ANY, "000");
            CHECK.due("list(" + tag + ")", shelf.list(tag, ANY), NONE);
            CHECK.dueText("nothing is listed", listed(shelf), "");
            CHECK.due("no field is listed", shelf.heading(0, 1), NONE);
            CHECK.due("no subfield is listed", shelf.heading(0, 2), NONE);
        }
        due(shelf, 1, ANY, "000");
    }

    private static void codes() {
        CHECK.says("and that have this code (any code, if it is *; a character with the code 0 is the code of simple fields)");
        String divided = Texts.record(LETTERS, "01000$aw$zx$0y$9z");
        RecordShelf shelf = shelfOf(divided, Texts.record(LETTERS, "009p"));
        due(shelf, 10, ANY, "000 001 002 003");
        due(shelf, 10, 'a', "000");
        due(shelf, 10, 'z', "001");
        due(shelf, 10, '0', "002");
        due(shelf, 10, '9', "003");
        due(shelf, 10, (char) 0, "");
        due(shelf, 9, (char) 0, "100");
        due(shelf, 9, ANY, "100");
        due(shelf, 9, 'a', "");
        due(shelf, 9, '0', "");
        due(shelf, 9, ' ', "");
        char[] noCodes = {1, ' ', ')', '+', '/', ':', 'A', 'Z', '`', '{', 127, 255, 256, 0x12A, 0x161, 0x17A, 0x130, 0x7FFF,
            Character.MAX_VALUE};
        for (char code : noCodes) {
            due(shelf, 10, code, "");
            due(shelf, 9, code, "");
        }
    }

    /** Six records of eight fields of four subfields: subfield i of all 192 has the key of the number keys[i]. */
    private static RecordShelf fullShelf(int[] keys) {
        String[] texts = new String[6];
        for (int record = 0; record < 6; record++) {
            String[] fields = new String[8];
            for (int field = 0; field < 8; field++) {
                fields[field] = "50000";
                for (int i = 0; i < 4; i++) {
                    fields[field] += "$a" + Integer.toString(36 * 36 + keys[32 * record + 4 * field + i], 36).substring(1);
                }
            }
            texts[record] = Texts.record(LETTERS, fields);
        }
        return shelfOf(texts);
    }

    /** The order of so many headings as there can be, whatever rank a heading comes to in its turn. */
    private static void everyRank() {
        CHECK.says("in the order of their keys");
        int[] steps = {1, 191, 5, 67, 95, 125, 187};
        for (int step : steps) {
            int[] keys = new int[192];
            int[] owners = new int[192];
            for (int i = 0; i < 192; i++) {
                keys[i] = (i * step + 11 * (step / 2)) % 192;
                owners[keys[i]] = i;
            }
            // A call for each heading: one shelf has no more than 512 calls for one of its three numbers.
            for (int what = 0; what < 3; what++) {
                RecordShelf shelf = fullShelf(keys);
                CHECK.due("list() with the step " + step, shelf.list(500, 'a'), 192);
                for (int k = 0; k < 192; k++) {
                    int owner = owners[k];
                    int due = what == 0 ? owner / 32 : what == 1 ? owner / 4 % 8 : owner % 4;
                    CHECK.due("heading(" + k + ", " + what + ") with the step " + step, shelf.heading(k, what), due);
                }
            }
        }
    }

    private static void equalKeys() {
        CHECK.says("in the order of their keys; of equal ones by record, field, subfield");
        String text = Texts.record(LETTERS, "50000$am$bM", "50000$am.$b m");
        RecordShelf shelf = shelfOf(text, text, text);
        due(shelf, 500, ANY, "000 001 010 011 100 101 110 111 200 201 210 211");
        due(shelf, 500, 'b', "001 011 101 111 201 211");
        shelf.append(0, 0, 0, 'z');
        shelf.append(1, 1, 1, '0');
        due(shelf, 500, ANY, "001 010 011 100 101 110 200 201 210 211 111 000");
    }

    private static void emptyKeys() {
        CHECK.says("Subfields with an empty key count as well.");
        RecordShelf shelf = shelfOf(Texts.record(LETTERS, "50000$aa$a$a-- $a0", "001"), Texts.record(LETTERS, "001?", "001x"));
        due(shelf, 500, 'a', "001 002 003 000");
        due(shelf, 1, (char) 0, "010 100 110");
        RecordShelf built = new RecordShelf();
        built.fresh();
        built.field(0, 999, ' ', ' ');
        due(built, 999, ANY, "000");
        built.subfield(0, 0, '9');
        due(built, 999, ANY, "000 001");
    }

    private static void howMany() {
        CHECK.says("Answers how many there are");
        CHECK.due("none on an empty shelf", new RecordShelf().list(1, ANY), 0);
        RecordShelf shelf = new RecordShelf();
        shelf.fresh();
        CHECK.due("none in a record without fields", shelf.list(1, ANY), 0);
        String[] fields = new String[8];
        for (int i = 0; i < 8; i++) {
            fields[i] = "99900$a" + i + "$b" + i + "$c" + i + "$d" + i;
        }
        RecordShelf full = shelfOf(Texts.record(LETTERS, fields));
        CHECK.due("all of one record", full.list(999, ANY), 32);
        for (int record = 1; record < 6; record++) {
            CHECK.due("read()", full.read(), record);
            CHECK.due("all of the records up to " + record, full.list(999, ANY), 32 * (record + 1));
        }
        CHECK.due("the last heading's record", full.heading(191, 0), 5);
        CHECK.due("the last heading's field", full.heading(191, 1), 7);
        CHECK.due("the last heading's subfield", full.heading(191, 2), 3);
        CHECK.due("no heading 192", full.heading(192, 0), NONE);
        CHECK.due("the first heading of the second field", full.heading(24, 1), 1);
        CHECK.due("the last heading of the first field", full.heading(23, 1), 0);
        CHECK.due("a quarter of them", full.list(999, 'd'), 48);
        CHECK.due("no heading 48", full.heading(48, 2), NONE);
        CHECK.due("heading 47", full.heading(47, 2), 3);
    }

    private static RecordShelf twoHeadings() {
        RecordShelf shelf = shelfOf(Texts.record(LETTERS, "50000$aa", "50100$ax$bq$ab"));
        CHECK.due("list()", shelf.list(501, 'a'), 2);
        return shelf;
    }

    private static void headingNumbers() {
        CHECK.says("Of heading k (from 0) of the latest list");
        RecordShelf shelf = twoHeadings();
        int[][] due = {{0, 1, 2}, {0, 1, 0}};
        for (int k = 0; k < 2; k++) {
            for (int what = 0; what < 3; what++) {
                CHECK.due("heading(" + k + ", " + what + ")", shelf.heading(k, what), due[k][what]);
            }
        }
        CHECK.due("a shorter list", shelf.list(501, 'b'), 1);
        CHECK.due("heading 0 of it", shelf.heading(0, 2), 1);
        CHECK.due("heading 1 of it", shelf.heading(1, 2), NONE);
    }

    private static void noHeadings() {
        CHECK.says("NONE when there is none.");
        RecordShelf shelf = twoHeadings();
        int[] numbers = {LEAST, LEAST + 1, -2, -1, 2, 3, 191, 192, 193, 65536, GREATEST};
        for (int k : numbers) {
            for (int what = 0; what < 3; what++) {
                CHECK.due("heading(" + k + ", " + what + ")", shelf.heading(k, what), NONE);
            }
        }
        int[] whats = {LEAST, LEAST + 1, -2, -1, 3, 4, 65536, GREATEST};
        for (int what : whats) {
            CHECK.due("heading(0, " + what + ")", shelf.heading(0, what), NONE);
            CHECK.due("heading(1, " + what + ")", shelf.heading(1, what), NONE);
            CHECK.due("heading(2, " + what + ")", shelf.heading(2, what), NONE);
        }
        CHECK.due("a list of none", shelf.list(502, ANY), 0);
        CHECK.due("its heading", shelf.heading(0, 0), NONE);
    }

    private static void asItWasThen() {
        CHECK.says("as it was then");
        RecordShelf shelf = shelfOf(Texts.record(LETTERS, "001x", "50000$ac$ab", "50000$aa"),
            Texts.record(LETTERS, "50000$aa"));
        String was = "020 100 011 010";
        due(shelf, 500, 'a', was);
        shelf.append(1, 0, 0, 'z');
        CHECK.dueText("after append", listed(shelf), was);
        shelf.subfield(1, 0, 'a');
        CHECK.dueText("after subfield", listed(shelf), was);
        shelf.field(1, 500, ' ', ' ');
        CHECK.dueText("after field", listed(shelf), was);
        shelf.drop(0, 0);
        CHECK.dueText("after drop of a field before it", listed(shelf), was);
        shelf.drop(0, 0);
        shelf.drop(0, 0);
        CHECK.dueText("after drop of what it lists", listed(shelf), was);
        shelf.fresh();
        shelf.read();
        CHECK.dueText("after fresh and read", listed(shelf), was);
        shelf.write(0);
        shelf.cut(0);
        shelf.feed('q', 1);
        shelf.find(0, ANY, 1);
        shelf.find(1000, ANY, 1);
        CHECK.dueText("after what changes the text", listed(shelf), was);
        // Record 1 has az and two empty ones by now, and record 3 was read: a.
        due(shelf, 500, 'a', "101 110 300 100");
    }

    public static void main(String[] args) {
        tags();
        noTags();
        codes();
        everyRank();
        equalKeys();
        emptyKeys();
        howMany();
        headingNumbers();
        noHeadings();
        asItWasThen();
        CHECK.end();
    }
}
