/** The boundary cases of A RECORD AS A TEXT and of promise 12, each sentence by itself. */
public final class WriteEdgesTest {
    private static final int NONE = RecordShelf.NONE;
    private static final int ROOM = RecordShelf.ROOM;
    private static final String FRESH = "nam a   ";
    private static final String TWENTY = "abcdefghij KLMNOPQR~";
    private static final String FOUR = "11$a" + TWENTY + "$b" + TWENTY + "$c" + TWENTY + "$d" + TWENTY;
    private static final Check CHECK = new Check("WriteEdgesTest");

    private static void due(String what, RecordShelf shelf, int record, String want) {
        CHECK.due("write of " + what, shelf.write(record), want.length());
        CHECK.dueText("the text of " + what, Texts.get(shelf), want);
    }

    private static void numberOfFields() {
        CHECK.says("A RECORD AS A TEXT of n fields, B being 25 + 12 * n");
        for (int n = 0; n <= 8; n++) {
            RecordShelf shelf = new RecordShelf();
            shelf.fresh();
            StringBuilder directory = new StringBuilder();
            for (int i = 0; i < n; i++) {
                shelf.field(0, 9 - i, ' ', ' ');
                directory.append(String.format("%03d0001%05d", 9 - i, i));
            }
            String base = String.format("%05d", 25 + 12 * n);
            String length = String.format("%05d", 26 + 13 * n);
            due(n + " fields", shelf, 0, length + "nam a22" + base + "   4500" + directory + "\u001e" + "\u001e".repeat(n) + "\u001d");
        }
    }

    private static void lengthsAndStarts() {
        CHECK.says("each as long as told, and starting where told, counted from B on, the first one at 0, "
            + "each other one right behind the one before");
        String[] texts = {
            Texts.record("~~~~~~~~", "999" + FOUR, "009" + TWENTY, "01000$a", "001", "10099$z~$0$9$a", "99900$a" + TWENTY),
            Texts.record("        ", "999" + FOUR, "999" + FOUR, "002x"),
            Texts.record("00000111", "00199999", "002", "003", "004", "005", "006", "007", "008x"),
        };
        for (String text : texts) {
            RecordShelf shelf = new RecordShelf();
            Texts.set(shelf, text);
            CHECK.due("read()", shelf.read(), 0);
            shelf.cut(0);
            due("what was read", shelf, 0, text);
        }
        RecordShelf shelf = new RecordShelf();
        Texts.set(shelf, texts[0]);
        shelf.read();
        shelf.drop(0, 0);
        shelf.append(0, 2, 0, 'q');
        due("what was changed", shelf, 0,
            Texts.record("~~~~~~~~", "009" + TWENTY, "01000$a", "001q", "10099$z~$0$9$a", "99900$a" + TWENTY));
    }

    private static void empties() {
        CHECK.says("(An empty simple field is written all the same, and an empty subfield.)");
        RecordShelf shelf = new RecordShelf();
        shelf.fresh();
        shelf.field(0, 9, ' ', ' ');
        due("an empty simple field", shelf, 0, Texts.record(FRESH, "009"));
        shelf.field(0, 10, '0', ' ');
        due("an empty subfield", shelf, 0, Texts.record(FRESH, "009", "0100 $a"));
        shelf.subfield(0, 1, 'b');
        shelf.subfield(0, 1, '0');
        shelf.subfield(0, 1, 'z');
        due("four empty subfields", shelf, 0, Texts.record(FRESH, "009", "0100 $a$b$0$z"));
        shelf.append(0, 1, 2, 'x');
        due("empty ones round another", shelf, 0, Texts.record(FRESH, "009", "0100 $a$b$0x$z"));
        CHECK.due("it is read again", shelf.read(), 1);
        CHECK.due("with all its subfields", shelf.many(1, 1), 4);
    }

    private static void becomesTheRecord() {
        CHECK.says("The text becomes the record.");
        int[] lengths = {0, 1, 25, 26, 27, 600};
        for (int length : lengths) {
            RecordShelf shelf = new RecordShelf();
            shelf.fresh();
            Texts.feed(shelf, "x".repeat(length));
            due("no fields after " + length, shelf, 0, Texts.record(FRESH));
            CHECK.due("nothing is behind it", shelf.letter(26), NONE);
            CHECK.due("feed goes behind it", shelf.feed('y', 1), 27);
        }
    }

    private static void noSuchRecord() {
        CHECK.says("NONE when there is no such record");
        RecordShelf shelf = new RecordShelf();
        Texts.feed(shelf, "stays");
        int[] never = {Integer.MIN_VALUE, Integer.MIN_VALUE + 1, -2, -1, 6, 7, 256, Integer.MAX_VALUE};
        for (int count = 0; count <= 6; count++) {
            for (int record : never) {
                CHECK.due("write(" + record + ") of " + count, shelf.write(record), NONE);
            }
            CHECK.due("write of the one behind " + count, shelf.write(count), NONE);
            CHECK.dueText("the text", Texts.get(shelf), "stays");
            shelf.fresh();
        }
        for (int record = 0; record < 6; record++) {
            CHECK.due("write(" + record + ")", shelf.write(record), 26);
        }
    }

    /** As many fields as great as can be that a text has room for. */
    private static String fiveGreat() {
        return Texts.record(FRESH, "500" + FOUR, "501" + FOUR, "502" + FOUR, "503" + FOUR, "504" + FOUR);
    }

    private static void moreThanSixHundred() {
        CHECK.says("ROOM when there would be more than 600.");
        RecordShelf shelf = new RecordShelf();
        Texts.set(shelf, fiveGreat());
        CHECK.due("how many characters", fiveGreat().length(), 541);
        CHECK.due("read()", shelf.read(), 0);
        shelf.field(0, 1, ' ', ' ');
        shelf.field(0, 2, ' ', ' ');
        Texts.append(shelf, 0, 5, 0, TWENTY);
        Texts.append(shelf, 0, 6, 0, "x".repeat(599 - 541 - 2 * 13 - 20));
        CHECK.due("write of 599", shelf.write(0), 599);
        shelf.append(0, 6, 0, 'y');
        CHECK.due("write of 600", shelf.write(0), 600);
        CHECK.due("its length", shelf.letter(2), '6');
        CHECK.due("its last character but two", shelf.letter(597), 'y');
        CHECK.due("its last character but one", shelf.letter(598), 30);
        CHECK.due("its last character", shelf.letter(599), 29);
        CHECK.due("it is read again", shelf.read(), 1);
        shelf.append(0, 6, 0, 'z');
        CHECK.due("write of 601", shelf.write(0), ROOM);
        CHECK.due("the text has 600 yet", shelf.cut(600), 600);
        CHECK.due("its last character but two", shelf.letter(597), 'y');
        CHECK.due("the other record", shelf.write(1), 600);
        shelf.cut(5);
        CHECK.due("write of 601 again", shelf.write(0), ROOM);
        CHECK.dueText("the text stays", Texts.get(shelf), "00600");
    }

    private static void greatest() {
        CHECK.says("ROOM when there would be more than 600.");
        RecordShelf shelf = new RecordShelf();
        Texts.set(shelf, fiveGreat());
        CHECK.due("read()", shelf.read(), 0);
        for (int field = 5; field < 8; field++) {
            shelf.field(0, 999, '1', '1');
            for (int i = 0; i < 4; i++) {
                if (i > 0) {
                    shelf.subfield(0, field, 'b');
                }
                Texts.append(shelf, 0, field, i, TWENTY);
            }
        }
        CHECK.due("the greatest record of all", shelf.write(0), ROOM);
        CHECK.due("the text stays", shelf.cut(600), fiveGreat().length());
    }

    public static void main(String[] args) {
        numberOfFields();
        lengthsAndStarts();
        empties();
        becomesTheRecord();
        noSuchRecord();
        moreThanSixHundred();
        greatest();
        CHECK.end();
    }
}
