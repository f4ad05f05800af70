/** The boundary cases of TO READ from the fields on, and of promises 5 and 6, each sentence by itself. */
public final class FieldEdgesTest {
    private static final int NONE = RecordShelf.NONE;
    private static final int ROOM = RecordShelf.ROOM;
    private static final int FIELD = RecordShelf.FIELD;
    private static final int END = RecordShelf.END;
    private static final String LETTERS = "nam a   ";
    /** Where the field of a record with one field begins. */
    private static final int BASE = 37;
    private static final String TWENTY = "abcdefghij KLMNOPQR~";
    private static final Check CHECK = new Check("FieldEdgesTest");

    /** A record with one field whose characters are just these: $ for 31, ^ for 30, | for 29. */
    private static String one(String tag, String content) {
        String body = content.replace('$', Texts.SUB).replace('^', Texts.FIELD).replace('|', Texts.END);
        return Texts.framed(LETTERS, tag + String.format("%04d00000", body.length()), body);
    }

    private static void fault(String tag, String content, int fault, int at) {
        CHECK.fault(tag + " " + content, one(tag, content), fault, BASE + at);
    }

    private static RecordShelf taken(String tag, String content) {
        RecordShelf shelf = new RecordShelf();
        CHECK.read(tag + " " + content, shelf, one(tag, content), 0, NONE);
        return shelf;
    }

    private static boolean plain(char c) {
        return c >= 32 && c <= 126;
    }

    private static void simplePlain() {
        CHECK.says("a simple one's must be plain");
        for (char c = 29; c <= 126; c++) {
            for (int at = 0; at < 3; at++) {
                String text = Texts.with(one("009", "abc^"), BASE + at, c);
                if (plain(c)) {
                    RecordShelf shelf = new RecordShelf();
                    CHECK.read("code " + (int) c + " at " + at, shelf, text, 0, NONE);
                    CHECK.due("the character", shelf.shown(0, 0, 0, at), c);
                } else {
                    CHECK.fault("code " + (int) c + " at " + at, text, FIELD, BASE + at);
                }
            }
        }
    }

    private static void simpleEnd() {
        CHECK.says("and then 30");
        for (char c = 29; c <= 126; c++) {
            if (c != 30) {
                CHECK.fault("code " + (int) c + " for 30", Texts.with(one("001", "abc^"), BASE + 3, c), FIELD, BASE + 3);
                CHECK.fault("code " + (int) c + " alone", Texts.with(one("001", "^"), BASE, c), FIELD, BASE);
            }
        }
        taken("001", "^");
        taken("001", "a^");
    }

    private static void indicators() {
        CHECK.says("of another one two indicators");
        for (char c = 29; c <= 126; c++) {
            boolean right = c == ' ' || c >= '0' && c <= '9';
            for (int at = 0; at < 2; at++) {
                String text = Texts.with(one("010", "12$ax^"), BASE + at, c);
                if (right) {
                    RecordShelf shelf = new RecordShelf();
                    CHECK.read("indicator " + (int) c, shelf, text, 0, NONE);
                    CHECK.due("the indicator", shelf.mark(0, 0, 1 + at), c);
                    CHECK.due("the other one", shelf.mark(0, 0, 2 - at), at == 0 ? '2' : '1');
                } else {
                    CHECK.fault("indicator " + (int) c, text, FIELD, BASE + at);
                }
            }
        }
    }

    private static void thirtyOne() {
        CHECK.says("then 31");
        for (char c = 29; c <= 126; c++) {
            if (c != 31) {
                CHECK.fault("code " + (int) c + " for 31", Texts.with(one("999", "12$ax^"), BASE + 2, c), FIELD, BASE + 2);
            }
        }
    }

    private static void codes() {
        CHECK.says("a code");
        for (char c = 29; c <= 126; c++) {
            boolean right = c >= 'a' && c <= 'z' || c >= '0' && c <= '9';
            int[] places = {3, 6};
            for (int at : places) {
                String text = Texts.with(one("010", "12$ax$by^"), BASE + at, c);
                if (right) {
                    RecordShelf shelf = new RecordShelf();
                    CHECK.read("code " + (int) c, shelf, text, 0, NONE);
                    CHECK.due("the code", shelf.shown(0, 0, at / 6, -1), c);
                } else {
                    CHECK.fault("code " + (int) c, text, FIELD, BASE + at);
                }
            }
        }
    }

    private static void plainOnes() {
        CHECK.says("plain ones, perhaps further subfields");
        for (char c = 29; c <= 126; c++) {
            String text = Texts.with(one("010", "12$axyz^"), BASE + 5, c);
            if (plain(c)) {
                RecordShelf shelf = new RecordShelf();
                CHECK.read("code " + (int) c, shelf, text, 0, NONE);
                CHECK.due("the character", shelf.shown(0, 0, 0, 1), c);
            } else if (c != 31) {
                CHECK.fault("code " + (int) c, text, FIELD, BASE + 5);
            }
        }
        RecordShelf shelf = taken("010", "12$ax$z^");
        CHECK.due("two subfields", shelf.many(0, 0), 2);
        CHECK.due("the second one's code", shelf.shown(0, 0, 1, -1), 'z');
        CHECK.due("the second one is empty", shelf.shown(0, 0, 1, 0), NONE);
        shelf = taken("010", "12$a^");
        CHECK.due("one empty subfield", shelf.many(0, 0), 1);
        shelf = taken("010", "12$a$a$a$a^");
        CHECK.due("four empty subfields", shelf.many(0, 0), 4);
    }

    private static void justWhereItsLengthSays() {
        CHECK.says("and then 30, just where its length says");
        for (char c = 29; c <= 126; c++) {
            if (c != 30) {
                CHECK.fault("code " + (int) c + " for 30", Texts.with(one("010", "12$ax^"), BASE + 5, c), FIELD, BASE + 5);
            }
        }
        fault("010", "12$ax^^", FIELD, 5);
        fault("010", "12$a^x^", FIELD, 4);
        fault("009", "ab^^", FIELD, 2);
        fault("009", "^^", FIELD, 0);
        String bodies = Texts.body("12$axy") + Texts.body("34$bz");
        taken2("just so", "010000700000020000600007", bodies);
        CHECK.fault("30 one too late", two("010000600000020000700006", bodies), FIELD, 49 + 5);
        CHECK.fault("30 one too early", two("010000800000020000500008", bodies), FIELD, 49 + 6);
        String simple = Texts.body("ab") + Texts.body("cd");
        taken2("just so", "001000300000002000300003", simple);
        CHECK.fault("30 one too late", two("001000200000002000400002", simple), FIELD, 49 + 1);
        CHECK.fault("30 one too early", two("001000400000002000200004", simple), FIELD, 49 + 2);
    }

    private static void cannotStandThere() {
        CHECK.says("at a character of a field that cannot stand there");
        fault("010", "12", FIELD, 1);
        fault("010", "1^", FIELD, 1);
        fault("010", "x^", FIELD, 0);
        fault("010", "12^", FIELD, 2);
        fault("010", "12$", FIELD, 2);
        fault("010", "12x", FIELD, 2);
        fault("010", "12$^", FIELD, 3);
        fault("010", "12$a", FIELD, 3);
        fault("010", "12$a$", FIELD, 4);
        fault("010", "12$a$^", FIELD, 5);
        fault("010", "12$a$b", FIELD, 5);
    }

    private static String two(String directory, String bodies) {
        return Texts.framed(LETTERS, directory, bodies);
    }

    private static void taken2(String what, String directory, String bodies) {
        RecordShelf shelf = new RecordShelf();
        CHECK.read(what, shelf, two(directory, bodies), 0, NONE);
        CHECK.due("two fields", shelf.many(0, -1), 2);
    }

    private static void twentyFirst() {
        CHECK.says("ROOM at the 21st character of a subfield's text");
        RecordShelf shelf = taken("001", TWENTY + "^");
        CHECK.dueText("all twenty", Texts.shown(shelf, 0, 0, 0), TWENTY);
        fault("001", TWENTY + "z^", ROOM, 20);
        fault("001", TWENTY + "zzz^", ROOM, 20);
        String before = "12";
        for (int i = 0; i < 4; i++) {
            before += "$" + (char) ('a' + i);
            shelf = taken("010", before + TWENTY + "^");
            CHECK.dueText("all twenty of " + i, Texts.shown(shelf, 0, 0, i), TWENTY);
            fault("010", before + TWENTY + "z^", ROOM, before.length() + 20);
            fault("010", before + TWENTY + "zz^", ROOM, before.length() + 20);
            before += TWENTY;
        }
        fault("010", "12$a" + TWENTY + "z$b^", ROOM, 24);
        shelf = taken("010", "12$a" + TWENTY + "$bz^");
        CHECK.due("31 as the 21st is no character of the text", shelf.many(0, 0), 2);
        fault("010", "12$a" + TWENTY + "^z^", FIELD, 24);
        fault("010", "12$a" + TWENTY + "|z^", FIELD, 24);
        fault("001", TWENTY + "$z^", FIELD, 20);
        fault("001", TWENTY + "z", FIELD, 20);
        fault("010", "12$a" + TWENTY + "z", FIELD, 24);
    }

    private static void fifthSubfield() {
        CHECK.says("or the 31 of a fifth subfield");
        RecordShelf shelf = taken("010", "12$ap$bq$cr$ds^");
        CHECK.due("four subfields", shelf.many(0, 0), 4);
        CHECK.due("the last one's text", shelf.shown(0, 0, 3, 0), 's');
        fault("010", "12$ap$bq$cr$ds$et^", ROOM, 14);
        fault("010", "12$a$b$c$d$e^", ROOM, 10);
        fault("010", "12$a$b$c$d$A^", ROOM, 10);
        fault("010", "12$a$b$c$d$^", ROOM, 10);
        fault("010", "12$a$b$c$d$e$f^", ROOM, 10);
        fault("010", "12$a$b$c$d" + TWENTY + "$e^", ROOM, 30);
        fault("010", "12$a$b$c$d" + TWENTY + "z$e^", ROOM, 30);
        fault("010", "12$a$b$c$D$e^", FIELD, 9);
        fault("010", "12$a$b$c$d$", FIELD, 10);
    }

    private static void lastCharacter() {
        CHECK.says("Last, at the last character, END when it is not 29.");
        String[] texts = {Texts.record(LETTERS), Texts.record(LETTERS, "001ab"), Texts.record(LETTERS, "01012$ab")};
        for (String text : texts) {
            int last = text.length() - 1;
            CHECK.read("29", new RecordShelf(), text, 0, NONE);
            for (char c = 30; c <= 126; c++) {
                CHECK.fault("code " + (int) c, Texts.with(text, last, c), END, last);
            }
        }
        String wrong = Texts.with(Texts.record(LETTERS, "001ab"), 39, 'x');
        CHECK.fault("FIELD before END", Texts.with(wrong, 40, 'x'), FIELD, 39);
        CHECK.fault("ROOM before END", Texts.with(one("001", TWENTY + "z^"), BASE + 22, 'x'), ROOM, BASE + 20);
        String most = mostCharacters();
        CHECK.due("how many characters", most.length(), 600);
        RecordShelf shelf = new RecordShelf();
        CHECK.read("600 characters", shelf, most, 0, NONE);
        CHECK.read("600 characters with a wrong end", shelf, Texts.with(most, 599, '~'), END, 599);
    }

    private static String mostCharacters() {
        String[] fields = new String[7];
        for (int i = 0; i < 5; i++) {
            fields[i] = "50011$a" + TWENTY + "$b" + TWENTY + "$c" + TWENTY + "$d" + TWENTY;
        }
        fields[5] = "001" + TWENTY;
        fields[6] = "002" + TWENTY.substring(7);
        return Texts.record(LETTERS, fields);
    }

    private static void firstFault() {
        CHECK.says("the first fault that is met is the answer");
        String right = Texts.record(LETTERS, "001ab", "01012$ab");
        int[] places = {4, 10, 13, 20, 26, 30, 35, 48, 49, 51, 52, 54, 55, right.length() - 1};
        for (int i = 0; i < places.length; i++) {
            String text = right;
            for (int j = i; j < places.length; j++) {
                text = Texts.with(text, places[j], Texts.SUB);
            }
            int at = places[i];
            int fault = at < 24 ? RecordShelf.LEADER : at < 49 ? RecordShelf.DIRECTORY : at < right.length() - 1 ? FIELD : END;
            // 31 may stand where a subfield begins; there the code behind it is the fault.
            CHECK.fault("faults from " + at + " on", text, fault, at == 54 ? 55 : at);
        }
    }

    private static void sixRecords() {
        CHECK.says("ROOM when there are 6 records (this is no fault)");
        String right = Texts.record(LETTERS, "001ab");
        String wrong = Texts.with(right, 37, Texts.SUB);
        for (int fresh = 0; fresh <= 6; fresh++) {
            RecordShelf shelf = new RecordShelf();
            for (int i = 0; i < fresh; i++) {
                shelf.fresh();
            }
            for (int i = fresh; i < 6; i++) {
                CHECK.read("a fault before record " + i, shelf, wrong, FIELD, 37);
                CHECK.read("record " + i, shelf, right, i, NONE);
            }
            CHECK.read("a seventh record", shelf, right, ROOM, NONE);
            CHECK.read("a seventh record with a fault", shelf, wrong, ROOM, NONE);
            CHECK.read("a seventh record from no text", shelf, "", ROOM, NONE);
            CHECK.due("there are six", shelf.many(5, -1), fresh == 6 ? 0 : 1);
            CHECK.due("there is no seventh", shelf.many(6, -1), NONE);
        }
    }

    private static void theTextStays() {
        CHECK.says("Reads the text (which stays): a new record. Answers its number.");
        RecordShelf shelf = new RecordShelf();
        String text = Texts.record("ABCDEFGH", "001ab");
        Texts.set(shelf, text);
        for (int i = 0; i < 6; i++) {
            CHECK.due("read() " + i, shelf.read(), i);
        }
        CHECK.due("read() once more", shelf.read(), ROOM);
        CHECK.dueText("the text stays", Texts.get(shelf), text);
        shelf.append(5, 0, 0, 'c');
        CHECK.dueText("the records are not one", Texts.shown(shelf, 4, 0, 0), "ab");
        CHECK.dueText("but six", Texts.shown(shelf, 5, 0, 0), "abc");
    }

    private static void noPlace() {
        CHECK.says("NONE when it met none, or there was none.");
        RecordShelf shelf = new RecordShelf();
        CHECK.due("there was no read()", shelf.place(), NONE);
        shelf.fresh();
        shelf.feed('x', 1);
        shelf.write(7);
        CHECK.due("there was no read() yet", shelf.place(), NONE);
        CHECK.due("a fault", shelf.read(), RecordShelf.LEADER);
        CHECK.due("at 0", shelf.place(), 0);
        CHECK.due("at 0, asked again", shelf.place(), 0);
        shelf.write(0);
        shelf.fresh();
        shelf.list(0, '*');
        CHECK.due("other calls leave it", shelf.place(), 0);
        CHECK.due("no fault", shelf.read(), 2);
        CHECK.due("it met none", shelf.place(), NONE);
        shelf.cut(24);
        CHECK.due("a fault again", shelf.read(), RecordShelf.LEADER);
        CHECK.due("its place", shelf.place(), 4);
        shelf.fresh();
        shelf.fresh();
        shelf.fresh();
        CHECK.due("a seventh fresh()", shelf.fresh(), ROOM);
        CHECK.due("fresh() leaves the place", shelf.place(), 4);
        CHECK.due("read() with six records", shelf.read(), ROOM);
        CHECK.due("is no fault", shelf.place(), NONE);
    }

    public static void main(String[] args) {
        simplePlain();
        simpleEnd();
        indicators();
        thirtyOne();
        codes();
        plainOnes();
        justWhereItsLengthSays();
        cannotStandThere();
        twentyFirst();
        fifthSubfield();
        lastCharacter();
        firstFault();
        sixRecords();
        theTextStays();
        noPlace();
        CHECK.end();
    }
}
