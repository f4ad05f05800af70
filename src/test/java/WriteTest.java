/** Promise 12: write, with all offsets worked out anew. */
public final class WriteTest {
    private static final String FRESH = "nam a   ";
    private static final Check CHECK = new Check("WriteTest");

    private static void due(String what, RecordShelf shelf, int record, String want) {
        CHECK.due("write of " + what, shelf.write(record), want.length());
        CHECK.dueText("the text of " + what, Texts.get(shelf), want);
    }

    private static void builtByHand() {
        RecordShelf shelf = new RecordShelf();
        shelf.fresh();
        Texts.feed(shelf, "what was there before ".repeat(10));
        due("no fields", shelf, 0, Texts.record(FRESH));
        shelf.field(0, 7, 'x', 'x');
        due("an empty simple field", shelf, 0, Texts.record(FRESH, "007"));
        shelf.field(0, 10, ' ', '3');
        due("an empty subfield", shelf, 0, Texts.record(FRESH, "007", "010 3$a"));
    }

    private static void offsets() {
        RecordShelf shelf = new RecordShelf();
        shelf.fresh();
        shelf.field(0, 7, ' ', ' ');
        shelf.field(0, 10, ' ', '3');
        Texts.append(shelf, 0, 0, 0, "Call me");
        Texts.append(shelf, 0, 1, 0, "Ishmael.");
        shelf.subfield(0, 1, 'q');
        shelf.subfield(0, 1, '7');
        Texts.append(shelf, 0, 1, 2, "~ $!");
        shelf.field(0, 999, '9', '0');
        String three = Texts.record(FRESH, "007Call me", "010 3$aIshmael.$q$7~ #!", "99990$a").replace('#', '$');
        due("three fields", shelf, 0, three);
        due("three fields again", shelf, 0, three);
        shelf.drop(0, 0);
        due("two fields", shelf, 0, Texts.record(FRESH, "010 3$aIshmael.$q$7~ #!", "99990$a").replace('#', '$'));
    }

    private static void writtenAndRead() {
        RecordShelf shelf = new RecordShelf();
        String text = Texts.record("12345678", "50011$aone$btwo", "001three", "50022$cfour");
        CHECK.read("fields in any order", shelf, text, 0, -1);
        shelf.cut(0);
        due("what was read", shelf, 0, text);
        shelf.drop(0, 1);
        due("what was read, less one", shelf, 0, Texts.record("12345678", "50011$aone$btwo", "50022$cfour"));
        CHECK.due("it is read again", shelf.read(), 1);
    }

    private static void refused() {
        RecordShelf shelf = new RecordShelf();
        shelf.fresh();
        Texts.set(shelf, "stays");
        int[] noRecords = {1, -1, 6, 7, Integer.MIN_VALUE, Integer.MAX_VALUE};
        for (int record : noRecords) {
            CHECK.due("write of record " + record, shelf.write(record), -1);
        }
        CHECK.dueText("the text after refused ones", Texts.get(shelf), "stays");
    }

    private static String four(String tag) {
        String text = "x".repeat(20);
        return tag + "11$a" + text + "$b" + text + "$c" + text + "$d" + text;
    }

    private static void fillField(RecordShelf shelf, int record, int tag) {
        int field = shelf.field(record, tag, '1', '1');
        shelf.subfield(record, field, 'b');
        shelf.subfield(record, field, 'c');
        shelf.subfield(record, field, 'd');
        for (int i = 0; i < 4; i++) {
            Texts.append(shelf, record, field, i, "x".repeat(20));
        }
    }

    private static void room() {
        RecordShelf shelf = new RecordShelf();
        String most = Texts.record(FRESH, four("500"), four("501"), four("502"), four("503"), four("504"),
            "001" + "y".repeat(19), "002" + "z".repeat(14));
        CHECK.read("600 characters", shelf, most, 0, -1);
        shelf.cut(0);
        CHECK.due("write of 600", shelf.write(0), 600);
        CHECK.due("its last character", shelf.letter(599), 29);
        CHECK.due("it is read again", shelf.read(), 1);
        shelf.append(0, 6, 0, 'z');
        Texts.set(shelf, "stays");
        CHECK.due("write of 601", shelf.write(0), -2);
        CHECK.dueText("the text after ROOM", Texts.get(shelf), "stays");
        shelf.drop(0, 6);
        CHECK.due("write of 573", shelf.write(0), 573);
        CHECK.due("the other one has 600 yet", shelf.write(1), 600);
    }

    private static void greatest() {
        RecordShelf shelf = new RecordShelf();
        String most = Texts.record(FRESH, four("500"), four("501"), four("502"), four("503"), four("504"));
        CHECK.read("five great fields", shelf, most, 0, -1);
        for (int i = 0; i < 3; i++) {
            fillField(shelf, 0, 600);
        }
        CHECK.due("eight great fields", shelf.many(0, -1), 8);
        CHECK.due("the last one's last character", shelf.shown(0, 7, 3, 19), 'x');
        CHECK.due("write of the greatest", shelf.write(0), -2);
        CHECK.due("the text stays", shelf.cut(600), most.length());
    }

    public static void main(String[] args) {
        builtByHand();
        offsets();
        writtenAndRead();
        refused();
        room();
        greatest();
        CHECK.end();
    }
}
