/** Promises 5 and 6: read and place, with every fault that the document names. */
public final class ReadTest {
    private static final int ROOM = RecordShelf.ROOM;
    private static final int LEADER = RecordShelf.LEADER;
    private static final int DIRECTORY = RecordShelf.DIRECTORY;
    private static final int TOTAL = RecordShelf.TOTAL;
    private static final int FIELD = RecordShelf.FIELD;
    private static final int END = RecordShelf.END;
    private static final String LETTERS = "nam a   ";
    private static final Check CHECK = new Check("ReadTest");

    private static void wholeRecord() {
        RecordShelf shelf = new RecordShelf();
        String text = Texts.record("ABC~ xyz", "001ab1", "009", "010 9$a$zQ $0~", "99912$9Moby-Dick");
        CHECK.read("a whole record", shelf, text, 0, -1);
        CHECK.due("fields", shelf.many(0, -1), 4);
        CHECK.due("tag 0", shelf.mark(0, 0, 0), 1);
        CHECK.due("tag 1", shelf.mark(0, 1, 0), 9);
        CHECK.due("tag 2", shelf.mark(0, 2, 0), 10);
        CHECK.due("tag 3", shelf.mark(0, 3, 0), 999);
        CHECK.due("simple indicator 1", shelf.mark(0, 0, 1), 0);
        CHECK.due("simple indicator 2", shelf.mark(0, 1, 2), 0);
        CHECK.due("first indicator", shelf.mark(0, 2, 1), ' ');
        CHECK.due("second indicator", shelf.mark(0, 2, 2), '9');
        CHECK.due("simple subfields", shelf.many(0, 0), 1);
        CHECK.due("subfields", shelf.many(0, 2), 3);
        CHECK.due("simple code", shelf.shown(0, 0, 0, -1), 0);
        CHECK.due("code", shelf.shown(0, 2, 2, -1), '0');
        CHECK.dueText("simple text", Texts.shown(shelf, 0, 0, 0), "ab1");
        CHECK.dueText("empty simple text", Texts.shown(shelf, 0, 1, 0), "");
        CHECK.dueText("empty text", Texts.shown(shelf, 0, 2, 0), "");
        CHECK.dueText("text 1", Texts.shown(shelf, 0, 2, 1), "Q ");
        CHECK.dueText("text 2", Texts.shown(shelf, 0, 2, 2), "~");
        CHECK.dueText("text of the last field", Texts.shown(shelf, 0, 3, 0), "Moby-Dick");
        CHECK.due("the text stays, to be read again", shelf.read(), 1);
        shelf.cut(0);
        CHECK.due("write of what was read", shelf.write(1), text.length());
        CHECK.dueText("its letters and all", Texts.get(shelf), text);
    }

    private static void fullRecords() {
        RecordShelf shelf = new RecordShelf();
        CHECK.read("no fields", shelf, Texts.record(LETTERS), 0, -1);
        CHECK.due("no fields", shelf.many(0, -1), 0);
        String twenty = "x".repeat(20);
        CHECK.read("eight fields", shelf, Texts.record(LETTERS, "001" + twenty, "002", "003", "004", "005", "006", "007",
            "02000$a" + twenty + "$b" + twenty + "$c" + twenty + "$d" + twenty), 1, -1);
        CHECK.due("eight fields", shelf.many(1, -1), 8);
        CHECK.due("four subfields", shelf.many(1, 7), 4);
        CHECK.dueText("twenty characters", Texts.shown(shelf, 1, 7, 3), twenty);
        String most = Texts.record(LETTERS, four(20), four(20), four(20), four(20), four(20), "001" + "y".repeat(19),
            "002" + "z".repeat(14));
        CHECK.due("how many characters it has", most.length(), 600);
        CHECK.read("600 characters", shelf, most, 2, -1);
        CHECK.dueText("the text of its last field", Texts.shown(shelf, 2, 6, 0), "z".repeat(14));
    }

    private static String four(int letters) {
        String text = "x".repeat(letters);
        return "50011$a" + text + "$b" + text + "$c" + text + "$d" + text;
    }

    private static void leaderCharacters() {
        String text = Texts.record(LETTERS, "001ab", "24510$aMoby");
        for (int i = 0; i < 24; i++) {
            boolean letter = i >= 5 && i < 10 || i >= 17 && i < 20;
            CHECK.fault("31 at " + i, Texts.with(text, i, Texts.SUB), LEADER, i);
            CHECK.fault("30 at " + i, Texts.with(text, i, Texts.FIELD), LEADER, i);
            CHECK.fault("29 at " + i, Texts.with(text, i, Texts.END), LEADER, i);
            if (letter) {
                CHECK.read("a plain letter at " + i, new RecordShelf(), Texts.with(text, i, '~'), 0, -1);
            } else {
                CHECK.fault("x at " + i, Texts.with(text, i, 'x'), LEADER, i);
                CHECK.fault("/ at " + i, Texts.with(text, i, '/'), LEADER, i);
                CHECK.fault(": at " + i, Texts.with(text, i, ':'), LEADER, i);
                boolean base = i >= 12 && i < 17;
                char other = text.charAt(i) == '9' ? '8' : (char) (text.charAt(i) + 1);
                CHECK.fault("another digit at " + i, Texts.with(text, i, other), LEADER, base ? 12 : i);
            }
        }
    }

    private static void leaderBase() {
        String text = Texts.record(LETTERS, "001ab", "24510$aMoby");
        int[] wrong = {0, 1, 12, 13, 24, 26, 36, 38, 48, 50, 61, 73, 85, 97, 109, 121, 133, 145, 99999};
        for (int base : wrong) {
            boolean valid = base >= 25 && base <= 121 && (base - 25) % 12 == 0;
            if (!valid || base >= text.length()) {
                CHECK.fault("B " + base, withBase(text, base), LEADER, 12);
            }
        }
        CHECK.fault("B 37 of three fields less", withBase(text, 37), DIRECTORY, 36);
        CHECK.fault("B 61 of a field more", withBase(text, 61), DIRECTORY, 48);
        String none = Texts.record(LETTERS);
        CHECK.fault("B just at the length", "00025" + withBase(none, 25).substring(5, 25), LEADER, 12);
        CHECK.fault("B above the length", withBase(none, 37), LEADER, 12);
        String filler = "0".repeat(200);
        CHECK.fault("B for nine fields", "00233nam a2200133   4500" + filler + "000000000", LEADER, 12);
        CHECK.fault("B for eight fields", "00233nam a2200121   4500" + filler + "000000000", DIRECTORY, 26);
        CHECK.fault("B wrong and a later letter wrong", Texts.with(withBase(text, 26), 17, Texts.SUB), LEADER, 12);
        CHECK.fault("B no digit behind a wrong one", Texts.with(withBase(text, 99999), 16, 'x'), LEADER, 16);
    }

    private static String withBase(String text, int base) {
        return text.substring(0, 12) + String.format("%05d", base) + text.substring(17);
    }

    private static void missingCharacters() {
        String text = Texts.record(LETTERS, "001ab");
        for (int n = 0; n < 24; n++) {
            String start = (String.format("%05d", n) + text.substring(5)).substring(0, n);
            int place = n >= 17 ? 12 : n;
            CHECK.fault("only " + n + " characters", start, LEADER, place);
        }
        for (int n = 24; n < text.length(); n++) {
            String start = String.format("%05d", n) + text.substring(5, n);
            boolean ofLeader = n <= 37;
            CHECK.fault("only " + n + " characters", start, ofLeader ? LEADER : TOTAL, ofLeader ? 12 : 37);
        }
        CHECK.fault("one character more", text + "x", LEADER, 4);
        CHECK.fault("one character more, counted", String.format("%05d", text.length() + 1) + text.substring(5) + "x", TOTAL, 37);
    }

    private static void directoryCharacters() {
        String text = Texts.record(LETTERS, "001ab", "24510$aMoby", "009");
        for (int i = 24; i < 61; i++) {
            CHECK.fault("x at " + i, Texts.with(text, i, 'x'), DIRECTORY, i);
            CHECK.fault("31 at " + i, Texts.with(text, i, Texts.SUB), DIRECTORY, i);
            CHECK.fault("/ at " + i, Texts.with(text, i, '/'), DIRECTORY, i);
            if (i < 60) {
                CHECK.fault("30 at " + i, Texts.with(text, i, Texts.FIELD), DIRECTORY, i);
            }
            boolean start = i < 60 && (i - 24) % 12 >= 7;
            if (start) {
                char other = text.charAt(i) == '9' ? '8' : (char) (text.charAt(i) + 1);
                CHECK.fault("another digit of a start at " + i, Texts.with(text, i, other), DIRECTORY, i);
            }
        }
        CHECK.fault("29 for the 30", Texts.with(text, 60, Texts.END), DIRECTORY, 60);
        CHECK.fault("a digit for the 30", Texts.with(text, 60, '0'), DIRECTORY, 60);
    }

    private static void directoryNumbers() {
        CHECK.fault("tag 000", Texts.framed(LETTERS, "000000100000", Texts.body("")), DIRECTORY, 26);
        CHECK.fault("tag 000 and length x", Texts.framed(LETTERS, "000x00100000", Texts.body("")), DIRECTORY, 26);
        CHECK.fault("a second tag 000", Texts.framed(LETTERS, "001000100000000000100001", Texts.body("") + Texts.body("")),
            DIRECTORY, 38);
        CHECK.fault("length 0 of a simple field", Texts.framed(LETTERS, "009000000000", ""), DIRECTORY, 30);
        CHECK.fault("length 0", Texts.framed(LETTERS, "010000000000", ""), DIRECTORY, 30);
        CHECK.fault("length 1", Texts.framed(LETTERS, "010000100000", Texts.body("")), DIRECTORY, 30);
        CHECK.fault("length 1 and a wrong start", Texts.framed(LETTERS, "010000190000", Texts.body("")), DIRECTORY, 30);
        CHECK.fault("length 2", Texts.framed(LETTERS, "010000200000", Texts.body("1")), FIELD, 38);
        CHECK.read("length 1 of a simple field", new RecordShelf(), Texts.framed(LETTERS, "009000100000", Texts.body("")), 0, -1);
        CHECK.fault("the second start", Texts.framed(LETTERS, "001000300000002000100002", Texts.body("ab") + Texts.body("")),
            DIRECTORY, 47);
        CHECK.fault("great lengths, a start of 19998", Texts.framed(LETTERS, "001999900000002999909999003000119998",
            Texts.body("")), TOTAL, 61);
        CHECK.fault("great lengths, a wrong start", Texts.framed(LETTERS, "001999900000002999909999003000109998",
            Texts.body("")), DIRECTORY, 55);
    }

    private static void totals() {
        CHECK.fault("a length too great", Texts.framed(LETTERS, "001000400000", Texts.body("ab")), TOTAL, 37);
        CHECK.fault("a length too small", Texts.framed(LETTERS, "001000200000", Texts.body("ab")), TOTAL, 37);
        CHECK.fault("no field but characters", Texts.framed(LETTERS, "", Texts.body("ab")), TOTAL, 25);
        CHECK.fault("TOTAL before FIELD", Texts.framed(LETTERS, "001000400000", "\u001f\u001f\u001f"), TOTAL, 37);
        CHECK.fault("TOTAL before END", Texts.with(Texts.framed(LETTERS, "001000400000", Texts.body("ab")), 40, 'x'), TOTAL, 37);
    }

    private static String oneField(String tag, String characters) {
        return Texts.framed(LETTERS, tag + String.format("%04d%05d", characters.length(), 0), characters.replace('$', Texts.SUB)
            .replace('^', Texts.FIELD).replace('|', Texts.END));
    }

    private static void simpleFields() {
        CHECK.fault("no 30", oneField("001", "abc"), FIELD, 39);
        CHECK.fault("30 too early", oneField("001", "a^c^"), FIELD, 38);
        CHECK.fault("31 in it", oneField("001", "a$c^"), FIELD, 38);
        CHECK.fault("29 in it", oneField("001", "|ac^"), FIELD, 37);
        CHECK.fault("31 at the end", oneField("001", "abc$"), FIELD, 40);
        CHECK.fault("29 at the end", oneField("001", "abc|"), FIELD, 40);
        CHECK.fault("a wrong single character", oneField("001", "a"), FIELD, 37);
        String twenty = "x".repeat(20);
        CHECK.read("20 characters", new RecordShelf(), oneField("009", twenty + "^"), 0, -1);
        CHECK.fault("21 characters", oneField("009", twenty + "y^"), ROOM, 57);
        CHECK.fault("22 characters", oneField("009", twenty + "yz^"), ROOM, 57);
        CHECK.fault("30 as the 21st, too early", oneField("009", twenty + "^z^"), FIELD, 57);
        CHECK.fault("20 characters and no 30", oneField("009", twenty + "y"), FIELD, 57);
    }

    private static void dividedFields() {
        CHECK.fault("first indicator", oneField("010", "a1$a^"), FIELD, 37);
        CHECK.fault("second indicator", oneField("010", "1:$a^"), FIELD, 38);
        CHECK.fault("31 as an indicator", oneField("010", "$a^"), FIELD, 37);
        CHECK.fault("two indicators alone", oneField("010", "12"), FIELD, 38);
        CHECK.fault("one indicator and 30", oneField("010", "1^"), FIELD, 38);
        CHECK.fault("no subfield", oneField("010", "12^"), FIELD, 39);
        CHECK.fault("31 for 30 at length 3", oneField("010", "12$"), FIELD, 39);
        CHECK.fault("text without subfield", oneField("010", "12abc^"), FIELD, 39);
        CHECK.fault("no code", oneField("010", "12$^"), FIELD, 40);
        CHECK.fault("a code for 30", oneField("010", "12$a"), FIELD, 40);
        CHECK.fault("a capital code", oneField("010", "12$A^"), FIELD, 40);
        CHECK.fault("a space as code", oneField("010", "12$ x^"), FIELD, 40);
        CHECK.fault("code below a", oneField("010", "12$`x^"), FIELD, 40);
        CHECK.fault("code above z", oneField("010", "12${x^"), FIELD, 40);
        CHECK.fault("31 as a code", oneField("010", "12$$a^"), FIELD, 40);
        CHECK.fault("30 too early", oneField("010", "12$ax^y^"), FIELD, 42);
        CHECK.fault("30 right behind the indicators", oneField("010", "12^$a^"), FIELD, 39);
        CHECK.fault("29 in the text", oneField("010", "12$ax|y^"), FIELD, 42);
        CHECK.fault("no 30 at the end", oneField("010", "12$axy"), FIELD, 42);
        CHECK.fault("31 at the end", oneField("010", "12$ax$"), FIELD, 42);
        CHECK.fault("no code of the second", oneField("010", "12$ax$^"), FIELD, 43);
        CHECK.fault("the second field", Texts.framed(LETTERS, "001000300000010000500003",
            Texts.body("ab") + "12\u001fA\u001e"), FIELD, 55);
        CHECK.read("codes a, z, 0, 9", new RecordShelf(), oneField("010", " 9$a$z$0$9^"), 0, -1);
        CHECK.read("equal codes", new RecordShelf(), oneField("010", "0 $a$a$a$a^"), 0, -1);
    }

    private static void rooms() {
        String twenty = "x".repeat(20);
        CHECK.read("20 characters", new RecordShelf(), oneField("010", "12$a" + twenty + "^"), 0, -1);
        CHECK.fault("21 characters", oneField("010", "12$a" + twenty + "y^"), ROOM, 61);
        CHECK.fault("20 characters and no 30", oneField("010", "12$a" + twenty + "y"), FIELD, 61);
        CHECK.fault("21 characters of the second", oneField("010", "12$a$b" + twenty + "y^"), ROOM, 63);
        CHECK.read("20 characters and a subfield", new RecordShelf(), oneField("010", "12$a" + twenty + "$by^"), 0, -1);
        CHECK.fault("a fifth subfield", oneField("010", "12$a$b$c$d$e^"), ROOM, 47);
        CHECK.fault("a fifth 31 and no code", oneField("010", "12$a$b$c$dx$^"), ROOM, 48);
        CHECK.fault("a fifth 31 for the 30", oneField("010", "12$a$b$c$d$"), FIELD, 47);
        CHECK.fault("ROOM before a later FIELD", oneField("010", "12$a" + twenty + "y$A^"), ROOM, 61);
        CHECK.fault("FIELD before a later ROOM", oneField("010", "1x$a" + twenty + "y^"), FIELD, 38);
    }

    private static void endings() {
        String text = Texts.record(LETTERS, "001ab", "24510$aMoby");
        char[] wrong = {Texts.FIELD, Texts.SUB, ' ', '0', '~'};
        for (char c : wrong) {
            CHECK.fault("the end " + (int) c, Texts.with(text, text.length() - 1, c), END, text.length() - 1);
        }
        CHECK.fault("FIELD before END", Texts.with(Texts.with(text, text.length() - 1, 'x'), 51, 'x'), FIELD, 51);
    }

    private static void placesAndNumbers() {
        RecordShelf shelf = new RecordShelf();
        String right = Texts.record(LETTERS, "001ab");
        String wrong = Texts.with(right, 39, 'c');
        CHECK.read("a fault", shelf, wrong, FIELD, 39);
        shelf.fresh();
        shelf.cut(3);
        CHECK.due("place() stays until the next read()", shelf.place(), 39);
        CHECK.due("many of the fresh one after a fault", shelf.many(0, -1), 0);
        CHECK.read("a record after a fault", shelf, right, 1, -1);
        CHECK.due("one field only", shelf.many(1, -1), 1);
        CHECK.read("a fault again", shelf, wrong, FIELD, 39);
        for (int i = 2; i < 6; i++) {
            CHECK.read("record " + i, shelf, right, i, -1);
            CHECK.due("fields of record " + i, shelf.many(i, -1), 1);
        }
        CHECK.read("a seventh record", shelf, right, ROOM, -1);
        CHECK.read("a seventh record with a fault", shelf, wrong, ROOM, -1);
        CHECK.due("no seventh record", shelf.many(6, -1), -1);
        RecordShelf full = new RecordShelf();
        for (int i = 0; i < 5; i++) {
            full.fresh();
        }
        CHECK.read("a fault with one place free", full, wrong, FIELD, 39);
        full.fresh();
        CHECK.read("no fault with six records", full, wrong, ROOM, -1);
    }

    public static void main(String[] args) {
        wholeRecord();
        fullRecords();
        leaderCharacters();
        leaderBase();
        missingCharacters();
        directoryCharacters();
        directoryNumbers();
        totals();
        simpleFields();
        dividedFields();
        rooms();
        endings();
        placesAndNumbers();
        CHECK.end();
    }
}
