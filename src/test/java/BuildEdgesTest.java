/** The boundary cases of THE SHELF and of promises 7 to 11 and 13 to 15, each sentence by itself. */
public final class BuildEdgesTest {
    private static final int NONE = RecordShelf.NONE;
    private static final int ROOM = RecordShelf.ROOM;
    private static final int LEAST = Integer.MIN_VALUE;
    private static final int GREATEST = Integer.MAX_VALUE;
    /** No record, field, subfield or character has any of these numbers. */
    private static final int[] NO_NUMBERS = {LEAST, LEAST + 1, -2, -1, 600, 65536, GREATEST};
    private static final char[] SOME_CHARS = {0, 1, 9, 28, 29, 30, 31, 127, 128, 255, 256, 0x120, 0x130, 0x139, 0x161,
        0x17A, 0x7FFF, 0x8000, 0xFF30, 0xFFFF};
    private static final Check CHECK = new Check("BuildEdgesTest");

    /** One record: a simple field with the text pq, a field with the subfields a and b (the text of b is xyz). */
    private static RecordShelf small() {
        RecordShelf shelf = new RecordShelf();
        shelf.fresh();
        shelf.field(0, 9, ' ', ' ');
        shelf.field(0, 10, '1', '2');
        shelf.subfield(0, 1, 'b');
        Texts.append(shelf, 0, 0, 0, "pq");
        Texts.append(shelf, 0, 1, 1, "xyz");
        return shelf;
    }

    private static void smallIsAsItWas(RecordShelf shelf) {
        CHECK.due("one record", shelf.many(1, -1), NONE);
        CHECK.due("two fields", shelf.many(0, -1), 2);
        CHECK.due("a simple one", shelf.many(0, 0), 1);
        CHECK.due("two subfields", shelf.many(0, 1), 2);
        CHECK.dueText("the first text", Texts.shown(shelf, 0, 0, 0), "pq");
        CHECK.dueText("the second text", Texts.shown(shelf, 0, 1, 0), "");
        CHECK.dueText("the third text", Texts.shown(shelf, 0, 1, 1), "xyz");
    }

    private static boolean digit(int c) {
        return c >= '0' && c <= '9';
    }

    /** All characters below 200, and then such as are like others in their low bits. */
    private static char charOf(int i) {
        return i < 200 ? (char) i : SOME_CHARS[i - 200];
    }

    private static final int CHARS = 200 + SOME_CHARS.length;

    private static void atMostSixRecords() {
        CHECK.says("THE SHELF has at most 6 RECORDS, numbered 0, 1, .. as they came");
        RecordShelf shelf = new RecordShelf();
        Texts.feed(shelf, Texts.record("12345678", "001a"));
        for (int i = 0; i < 6; i++) {
            CHECK.due("record " + i + " is not there yet", shelf.many(i, -1), NONE);
            CHECK.due("record " + i, i % 2 == 0 ? shelf.fresh() : shelf.read(), i);
            CHECK.due("fields of record " + i, shelf.many(i, -1), i % 2);
        }
        CHECK.due("a seventh one", shelf.fresh(), ROOM);
        CHECK.due("a seventh one that is read", shelf.read(), ROOM);
        CHECK.due("there is none", shelf.many(6, -1), NONE);
    }

    private static void freshOnes() {
        CHECK.says("Answers its number; ROOM when there are 6.");
        RecordShelf fresh = new RecordShelf();
        for (int i = 0; i < 6; i++) {
            CHECK.due("fresh()", fresh.fresh(), i);
        }
        CHECK.due("a seventh fresh()", fresh.fresh(), ROOM);
        CHECK.due("an eighth fresh()", fresh.fresh(), ROOM);
        CHECK.due("the sixth has no fields", fresh.many(5, -1), 0);
    }

    private static void lettersOfAFreshOne() {
        CHECK.says("A new record without fields; its letters are n, a, m, a space, a, and three spaces.");
        RecordShelf shelf = new RecordShelf();
        // The faults leave letters of their own in what becomes the fresh record.
        Texts.set(shelf, Texts.with(Texts.record("ZYXWVUTS", "001a"), 38, 'x'));
        CHECK.due("a fault behind the letters", shelf.read(), RecordShelf.FIELD);
        CHECK.due("fresh()", shelf.fresh(), 0);
        CHECK.due("no fields", shelf.many(0, -1), 0);
        CHECK.due("no field 0", shelf.mark(0, 0, 0), NONE);
        shelf.write(0);
        CHECK.dueText("its letters", Texts.get(shelf), "00026nam a2200025   4500\u001e\u001d");
    }

    private static void atMostEightFields() {
        CHECK.says("at most 8 FIELDS, numbered 0, 1, .. in their order");
        RecordShelf shelf = new RecordShelf();
        shelf.fresh();
        shelf.fresh();
        for (int i = 0; i < 8; i++) {
            CHECK.due("field " + i + " is not there yet", shelf.mark(1, i, 0), NONE);
            CHECK.due("field " + i, shelf.field(1, 1 + 10 * i, ' ', (char) ('0' + i)), i);
        }
        for (int i = 0; i < 8; i++) {
            CHECK.due("tag of field " + i, shelf.mark(1, i, 0), 1 + 10 * i);
        }
        CHECK.due("the other record has none", shelf.many(0, -1), 0);
        CHECK.due("there is no ninth", shelf.mark(1, 8, 0), NONE);
    }

    private static void ninthField() {
        CHECK.says("ROOM when the record has 8 fields.");
        RecordShelf shelf = new RecordShelf();
        shelf.fresh();
        shelf.fresh();
        for (int i = 0; i < 8; i++) {
            CHECK.due("field " + i, shelf.field(1, 5, ' ', ' '), i);
        }
        CHECK.due("a ninth simple field", shelf.field(1, 1, ' ', ' '), ROOM);
        CHECK.due("a ninth field", shelf.field(1, 999, ' ', ' '), ROOM);
        CHECK.due("a ninth field with the tag 0", shelf.field(1, 0, ' ', ' '), NONE);
        CHECK.due("a ninth field with the tag 1000", shelf.field(1, 1000, ' ', ' '), NONE);
        CHECK.due("a ninth field with no indicator", shelf.field(1, 10, ' ', 'a'), NONE);
        CHECK.due("there are eight", shelf.many(1, -1), 8);
        CHECK.due("there is no ninth", shelf.mark(1, 8, 0), NONE);
        CHECK.due("drop of one", shelf.drop(1, 7), true);
        CHECK.due("an eighth one again", shelf.field(1, 5, ' ', ' '), 7);
        CHECK.due("a ninth one again", shelf.field(1, 5, ' ', ' '), ROOM);
    }

    private static void tags() {
        CHECK.says("a field has a TAG, 1 .. 999");
        int[] right = {1, 2, 8, 9, 10, 11, 99, 100, 998, 999};
        for (int tag : right) {
            RecordShelf shelf = new RecordShelf();
            shelf.fresh();
            CHECK.due("tag " + tag, shelf.field(0, tag, '3', '4'), 0);
            CHECK.due("the tag", shelf.mark(0, 0, 0), tag);
        }
    }

    private static void noTags() {
        CHECK.says("tag is not 1 .. 999");
        RecordShelf shelf = small();
        int[] wrong = {LEAST, LEAST + 1, -999, -1, 0, 1000, 1001, 65537, GREATEST};
        for (int tag : wrong) {
            CHECK.due("tag " + tag, shelf.field(0, tag, ' ', ' '), NONE);
        }
        smallIsAsItWas(shelf);
    }

    private static void simpleBelowTen() {
        CHECK.says("A field with a tag below 10 is SIMPLE and has one subfield, with the code 0");
        for (int tag = 1; tag <= 20; tag++) {
            RecordShelf shelf = new RecordShelf();
            shelf.fresh();
            shelf.field(0, tag, '3', '4');
            boolean simple = tag < 10;
            CHECK.due("subfields of " + tag, shelf.many(0, 0), 1);
            CHECK.due("code of " + tag, shelf.shown(0, 0, 0, -1), simple ? 0 : 'a');
            CHECK.due("first indicator of " + tag, shelf.mark(0, 0, 1), simple ? 0 : '3');
            CHECK.due("second indicator of " + tag, shelf.mark(0, 0, 2), simple ? 0 : '4');
            CHECK.due("the subfield is empty", shelf.shown(0, 0, 0, 0), NONE);
            CHECK.due("a second subfield of " + tag, shelf.subfield(0, 0, 'b'), simple ? NONE : 1);
            CHECK.due("subfields of " + tag, shelf.many(0, 0), simple ? 1 : 2);
        }
    }

    private static void indicators() {
        CHECK.says("two INDICATORS (each a space or a digit)");
        for (int i = 0; i < CHARS; i++) {
            char c = charOf(i);
            boolean right = c == ' ' || digit(c);
            RecordShelf shelf = new RecordShelf();
            shelf.fresh();
            CHECK.due("first indicator " + (int) c, shelf.field(0, 10, c, '7'), right ? 0 : NONE);
            CHECK.due("it is marked", shelf.mark(0, 0, 1), right ? c : NONE);
            CHECK.due("second indicator " + (int) c, shelf.field(0, 999, '7', c), right ? 1 : NONE);
            CHECK.due("it is marked", shelf.mark(0, 1, 2), right ? c : NONE);
            CHECK.due("fields", shelf.many(0, -1), right ? 2 : 0);
        }
    }

    private static void noIndicators() {
        CHECK.says("or the field is not simple and first or second is no indicator");
        RecordShelf shelf = small();
        CHECK.due("neither is one", shelf.field(0, 10, 'x', 'x'), NONE);
        CHECK.due("the least char", shelf.field(0, 10, Character.MIN_VALUE, Character.MIN_VALUE), NONE);
        CHECK.due("the greatest char", shelf.field(0, 10, Character.MAX_VALUE, Character.MAX_VALUE), NONE);
        smallIsAsItWas(shelf);
        CHECK.due("a simple field takes the least char", shelf.field(0, 9, Character.MIN_VALUE, 'x'), 2);
        CHECK.due("a simple field takes the greatest char", shelf.field(0, 1, 'x', Character.MAX_VALUE), 3);
        CHECK.due("it has no indicator", shelf.mark(0, 3, 2), 0);
    }

    private static void noSuchRecord() {
        CHECK.says("NONE when there is no such record");
        RecordShelf shelf = small();
        for (int record : NO_NUMBERS) {
            CHECK.due("field of record " + record, shelf.field(record, 10, ' ', ' '), NONE);
        }
        for (int record = 1; record <= 7; record++) {
            CHECK.due("field of record " + record, shelf.field(record, 10, ' ', ' '), NONE);
        }
        smallIsAsItWas(shelf);
    }

    private static void oneToFourSubfields() {
        CHECK.says("1 to 4 subfields");
        RecordShelf shelf = small();
        CHECK.due("a third one", shelf.subfield(0, 1, 'c'), 2);
        CHECK.due("a fourth one", shelf.subfield(0, 1, 'b'), 3);
        CHECK.due("it is empty", shelf.shown(0, 1, 3, 0), NONE);
        CHECK.due("a field that is new has one", shelf.field(0, 10, ' ', ' '), 2);
        CHECK.due("and no more", shelf.many(0, 2), 1);
    }

    private static void fifthSubfield() {
        CHECK.says("ROOM when it has 4.");
        RecordShelf shelf = small();
        shelf.subfield(0, 1, 'c');
        CHECK.due("a fourth one", shelf.subfield(0, 1, 'd'), 3);
        CHECK.due("a fifth one", shelf.subfield(0, 1, 'e'), ROOM);
        CHECK.due("a fifth one with no code", shelf.subfield(0, 1, '*'), NONE);
        CHECK.due("there are four", shelf.many(0, 1), 4);
        CHECK.due("there is no fifth", shelf.shown(0, 1, 4, -1), NONE);
        CHECK.dueText("the second one's text", Texts.shown(shelf, 0, 1, 1), "xyz");
    }

    private static void codes() {
        CHECK.says("each with a code, a small letter or a digit");
        for (int i = 0; i < CHARS; i++) {
            char c = charOf(i);
            boolean right = c >= 'a' && c <= 'z' || digit(c);
            RecordShelf shelf = new RecordShelf();
            shelf.fresh();
            shelf.field(0, 10, ' ', ' ');
            CHECK.due("code " + (int) c, shelf.subfield(0, 0, c), right ? 1 : NONE);
            CHECK.due("its code", shelf.shown(0, 0, 1, -1), right ? c : NONE);
            CHECK.due("subfields", shelf.many(0, 0), right ? 2 : 1);
        }
    }

    private static void noSuchField() {
        CHECK.says("NONE when there is no such field, it is simple, or code is no code");
        RecordShelf shelf = small();
        for (int number : NO_NUMBERS) {
            CHECK.due("record " + number, shelf.subfield(number, 1, 'a'), NONE);
            CHECK.due("field " + number, shelf.subfield(0, number, 'a'), NONE);
        }
        CHECK.due("record 1", shelf.subfield(1, 1, 'a'), NONE);
        CHECK.due("record 6", shelf.subfield(6, 1, 'a'), NONE);
        CHECK.due("field 2", shelf.subfield(0, 2, 'a'), NONE);
        CHECK.due("field 8", shelf.subfield(0, 8, 'a'), NONE);
        CHECK.due("a simple field", shelf.subfield(0, 0, 'a'), NONE);
        CHECK.due("a simple field and its code", shelf.subfield(0, 0, (char) 0), NONE);
        CHECK.due("the least char", shelf.subfield(0, 1, Character.MIN_VALUE), NONE);
        CHECK.due("the greatest char", shelf.subfield(0, 1, Character.MAX_VALUE), NONE);
        smallIsAsItWas(shelf);
        CHECK.due("a right one", shelf.subfield(0, 1, 'a'), 2);
    }

    private static void plainCharacters() {
        CHECK.says("NONE when there is no such subfield or c is not plain");
        for (int i = 0; i < CHARS; i++) {
            char c = charOf(i);
            boolean right = c >= 32 && c <= 126;
            RecordShelf shelf = new RecordShelf();
            shelf.fresh();
            shelf.field(0, 9, ' ', ' ');
            CHECK.due("append of " + (int) c, shelf.append(0, 0, 0, c), right ? 1 : NONE);
            CHECK.due("what is shown", shelf.shown(0, 0, 0, 0), right ? c : NONE);
        }
        RecordShelf shelf = small();
        for (int number : NO_NUMBERS) {
            CHECK.due("record " + number, shelf.append(number, 1, 1, 'a'), NONE);
            CHECK.due("field " + number, shelf.append(0, number, 0, 'a'), NONE);
            CHECK.due("subfield " + number, shelf.append(0, 1, number, 'a'), NONE);
        }
        CHECK.due("record 1", shelf.append(1, 0, 0, 'a'), NONE);
        CHECK.due("field 2", shelf.append(0, 2, 0, 'a'), NONE);
        CHECK.due("subfield 2", shelf.append(0, 1, 2, 'a'), NONE);
        CHECK.due("subfield 4", shelf.append(0, 1, 4, 'a'), NONE);
        CHECK.due("subfield 1 of a simple field", shelf.append(0, 0, 1, 'a'), NONE);
        CHECK.due("the least char", shelf.append(0, 1, 1, Character.MIN_VALUE), NONE);
        CHECK.due("the greatest char", shelf.append(0, 1, 1, Character.MAX_VALUE), NONE);
        smallIsAsItWas(shelf);
        CHECK.due("a right one", shelf.append(0, 1, 1, 'a'), 4);
    }

    private static void atMostTwenty() {
        CHECK.says("A subfield has a text of at most 20 plain characters.");
        RecordShelf shelf = small();
        String letters = "xyzabcdefghijklmnopq";
        for (int n = 4; n <= 20; n++) {
            CHECK.due("append of the character " + n, shelf.append(0, 1, 1, letters.charAt(n - 1)), n);
        }
        CHECK.dueText("all twenty", Texts.shown(shelf, 0, 1, 1), letters);
    }

    private static void twentyFirst() {
        CHECK.says("ROOM when it has 20.");
        RecordShelf shelf = small();
        String letters = "xyzabcdefghijklmnopq";
        Texts.append(shelf, 0, 1, 1, letters.substring(3));
        CHECK.due("a 21st", shelf.append(0, 1, 1, 'r'), ROOM);
        CHECK.due("a 21st that is not plain", shelf.append(0, 1, 1, (char) 31), NONE);
        CHECK.dueText("still twenty", Texts.shown(shelf, 0, 1, 1), letters);
        for (int n = 3; n <= 20; n++) {
            CHECK.due("simple: the character " + n, shelf.append(0, 0, 0, '9'), n);
        }
        CHECK.due("simple: a 21st", shelf.append(0, 0, 0, '9'), ROOM);
        CHECK.due("simple: none behind", shelf.shown(0, 0, 0, 20), NONE);
        CHECK.due("another subfield has room", shelf.append(0, 1, 0, 'z'), 1);
        Texts.set(shelf, Texts.record("nam a   ", "001" + letters));
        CHECK.due("twenty that are read", shelf.read(), 1);
        CHECK.due("a 21st behind them", shelf.append(1, 0, 0, 'r'), ROOM);
    }

    private static RecordShelf eightFields() {
        RecordShelf shelf = new RecordShelf();
        shelf.fresh();
        for (int i = 0; i < 8; i++) {
            shelf.field(0, 100 + i, '1', (char) ('0' + i));
            shelf.append(0, i, 0, (char) ('A' + i));
        }
        return shelf;
    }

    private static void takenOut() {
        CHECK.says("A field is taken out (those behind it have lesser numbers then): true");
        for (int out = 0; out < 8; out++) {
            RecordShelf shelf = eightFields();
            CHECK.due("drop of " + out, shelf.drop(0, out), true);
            CHECK.due("seven are left", shelf.many(0, -1), 7);
            for (int i = 0; i < 7; i++) {
                int was = i < out ? i : i + 1;
                CHECK.due("tag of " + i, shelf.mark(0, i, 0), 100 + was);
                CHECK.due("indicator of " + i, shelf.mark(0, i, 2), '0' + was);
                CHECK.due("text of " + i, shelf.shown(0, i, 0, 0), 'A' + was);
            }
            CHECK.due("there is no field 7", shelf.many(0, 7), NONE);
            CHECK.due("drop of field 7", shelf.drop(0, 7), false);
            newFieldBehind(shelf, out);
        }
        RecordShelf shelf = eightFields();
        for (int left = 7; left >= 0; left--) {
            CHECK.due("drop of the first", shelf.drop(0, 0), true);
            CHECK.due("fields left", shelf.many(0, -1), left);
        }
        CHECK.due("drop of none", shelf.drop(0, 0), false);
        CHECK.due("a field again", shelf.field(0, 1, ' ', ' '), 0);
    }

    /** A field that comes after a drop is a new one, and shares nothing with those that are left. */
    private static void newFieldBehind(RecordShelf shelf, int out) {
        CHECK.due("a new field after drop of " + out, shelf.field(0, 200, '8', '9'), 7);
        CHECK.due("its subfields", shelf.many(0, 7), 1);
        CHECK.due("its text", shelf.shown(0, 7, 0, 0), NONE);
        CHECK.due("append to it", shelf.append(0, 7, 0, 'Z'), 1);
        for (int i = 0; i < 7; i++) {
            int was = i < out ? i : i + 1;
            CHECK.due("tag of " + i + " behind it", shelf.mark(0, i, 0), 100 + was);
            CHECK.dueText("text of " + i + " behind it", Texts.shown(shelf, 0, i, 0), "" + (char) ('A' + was));
        }
        CHECK.due("the new tag", shelf.mark(0, 7, 0), 200);
        CHECK.dueText("the new text", Texts.shown(shelf, 0, 7, 0), "Z");
    }

    private static void noneSuchToDrop() {
        CHECK.says("false when there is none such.");
        RecordShelf shelf = small();
        for (int number : NO_NUMBERS) {
            CHECK.due("record " + number, shelf.drop(number, 0), false);
            CHECK.due("field " + number, shelf.drop(0, number), false);
        }
        CHECK.due("record 1", shelf.drop(1, 0), false);
        CHECK.due("field 2", shelf.drop(0, 2), false);
        CHECK.due("field 8", shelf.drop(0, 8), false);
        smallIsAsItWas(shelf);
        shelf.fresh();
        CHECK.due("a record without fields", shelf.drop(1, 0), false);
    }

    private static void howMany() {
        CHECK.says("Of a record: how many fields (field below 0), of a field: how many subfields; NONE when there is none such.");
        RecordShelf shelf = small();
        int[] below = {-1, -2, -600, LEAST + 1, LEAST};
        for (int field : below) {
            CHECK.due("many(0, " + field + ")", shelf.many(0, field), 2);
            CHECK.due("many(1, " + field + ")", shelf.many(1, field), NONE);
            CHECK.due("many(-1, " + field + ")", shelf.many(-1, field), NONE);
        }
        for (int number : NO_NUMBERS) {
            CHECK.due("many(" + number + ", -1)", shelf.many(number, -1), NONE);
            CHECK.due("many(" + number + ", 0)", shelf.many(number, 0), NONE);
            CHECK.due("many(0, " + number + ")", shelf.many(0, number), number < 0 ? 2 : NONE);
        }
        CHECK.due("field 0", shelf.many(0, 0), 1);
        CHECK.due("field 1", shelf.many(0, 1), 2);
        CHECK.due("field 2", shelf.many(0, 2), NONE);
        CHECK.due("field 8", shelf.many(0, 8), NONE);
        shelf.fresh();
        CHECK.due("no fields", shelf.many(1, -1), 0);
        CHECK.due("field 0 of them", shelf.many(1, 0), NONE);
    }

    private static void marks() {
        CHECK.says("Of a field: the tag (what = 0), the codes of the indicators (1, 2; 0 of a simple field); "
            + "NONE when there is none such, or for another what.");
        RecordShelf shelf = small();
        int[][] due = {{9, 0, 0}, {10, '1', '2'}};
        for (int field = 0; field < 2; field++) {
            for (int what = 0; what < 3; what++) {
                CHECK.due("mark(0, " + field + ", " + what + ")", shelf.mark(0, field, what), due[field][what]);
            }
            CHECK.due("what 3", shelf.mark(0, field, 3), NONE);
            for (int number : NO_NUMBERS) {
                CHECK.due("what " + number, shelf.mark(0, field, number), NONE);
                CHECK.due("record " + number, shelf.mark(number, field, 0), NONE);
                CHECK.due("field " + number, shelf.mark(0, number, field), NONE);
            }
        }
        for (int what = 0; what < 3; what++) {
            CHECK.due("mark(0, 2, " + what + ")", shelf.mark(0, 2, what), NONE);
            CHECK.due("mark(1, 0, " + what + ")", shelf.mark(1, 0, what), NONE);
        }
    }

    private static void shownOnes() {
        CHECK.says("The code (as a character's code, 0 of a simple field) of a subfield for i = -1, "
            + "character i of its text for others; NONE when there is none such.");
        RecordShelf shelf = small();
        CHECK.due("code of a simple one", shelf.shown(0, 0, 0, -1), 0);
        CHECK.due("code a", shelf.shown(0, 1, 0, -1), 'a');
        CHECK.due("code b", shelf.shown(0, 1, 1, -1), 'b');
        CHECK.due("first character", shelf.shown(0, 1, 1, 0), 'x');
        CHECK.due("last character", shelf.shown(0, 1, 1, 2), 'z');
        CHECK.due("none behind it", shelf.shown(0, 1, 1, 3), NONE);
        CHECK.due("none at 20", shelf.shown(0, 1, 1, 20), NONE);
        CHECK.due("none of an empty text", shelf.shown(0, 1, 0, 0), NONE);
        for (int number : NO_NUMBERS) {
            CHECK.due("record " + number, shelf.shown(number, 1, 1, -1), NONE);
            CHECK.due("field " + number, shelf.shown(0, number, 0, -1), NONE);
            CHECK.due("subfield " + number, shelf.shown(0, 1, number, -1), NONE);
            CHECK.due("character " + number, shelf.shown(0, 1, 1, number), number == -1 ? 'b' : NONE);
        }
        CHECK.due("record 1", shelf.shown(1, 0, 0, -1), NONE);
        CHECK.due("field 2", shelf.shown(0, 2, 0, -1), NONE);
        CHECK.due("subfield 2", shelf.shown(0, 1, 2, -1), NONE);
        CHECK.due("subfield 1 of a simple one", shelf.shown(0, 0, 1, -1), NONE);
        for (int i = 3; i < 20; i++) {
            shelf.append(0, 1, 1, 'q');
        }
        CHECK.due("character 19", shelf.shown(0, 1, 1, 19), 'q');
        CHECK.due("character 20", shelf.shown(0, 1, 1, 20), NONE);
    }

    public static void main(String[] args) {
        atMostSixRecords();
        freshOnes();
        lettersOfAFreshOne();
        atMostEightFields();
        ninthField();
        tags();
        noTags();
        simpleBelowTen();
        indicators();
        noIndicators();
        noSuchRecord();
        oneToFourSubfields();
        fifthSubfield();
        codes();
        noSuchField();
        plainCharacters();
        atMostTwenty();
        twentyFirst();
        takenOut();
        noneSuchToDrop();
        howMany();
        marks();
        shownOnes();
        CHECK.end();
    }
}
