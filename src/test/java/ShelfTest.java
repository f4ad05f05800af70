/** Promises 7 to 11 and 13 to 15: records that are built by hand, and what they show. */
public final class ShelfTest {
    private static final int[] NO_NUMBERS = {-1, -2, 6, 100, Integer.MIN_VALUE, Integer.MAX_VALUE};
    private static final Check CHECK = new Check("ShelfTest");

    private static void freshRecords() {
        RecordShelf shelf = new RecordShelf();
        for (int i = 0; i < 6; i++) {
            CHECK.due("fresh()", shelf.fresh(), i);
            CHECK.due("its fields", shelf.many(i, -1), 0);
        }
        CHECK.due("a seventh fresh()", shelf.fresh(), -2);
        CHECK.due("no seventh record", shelf.many(6, -1), -1);
        shelf.write(0);
        CHECK.dueText("the letters of a fresh one", Texts.get(shelf), "00026nam a2200025   4500\u001e\u001d");
    }

    private static void newFields() {
        RecordShelf shelf = new RecordShelf();
        shelf.fresh();
        CHECK.due("tag 1", shelf.field(0, 1, 'x', (char) 300), 0);
        CHECK.due("tag 9", shelf.field(0, 9, ' ', '7'), 1);
        CHECK.due("tag 10", shelf.field(0, 10, ' ', '9'), 2);
        CHECK.due("tag 999", shelf.field(0, 999, '0', ' '), 3);
        CHECK.due("simple: subfields", shelf.many(0, 1), 1);
        CHECK.due("simple: code", shelf.shown(0, 1, 0, -1), 0);
        CHECK.due("simple: first", shelf.mark(0, 1, 1), 0);
        CHECK.due("simple: second", shelf.mark(0, 1, 2), 0);
        CHECK.due("subfields", shelf.many(0, 2), 1);
        CHECK.due("code", shelf.shown(0, 2, 0, -1), 'a');
        CHECK.due("empty", shelf.shown(0, 2, 0, 0), -1);
        CHECK.due("tag", shelf.mark(0, 2, 0), 10);
        CHECK.due("first", shelf.mark(0, 2, 1), ' ');
        CHECK.due("second", shelf.mark(0, 2, 2), '9');
        CHECK.due("tag 999 again", shelf.mark(0, 3, 0), 999);
        int[] wrongTags = {0, -1, 1000, -10, Integer.MIN_VALUE, Integer.MAX_VALUE};
        for (int tag : wrongTags) {
            CHECK.due("field with tag " + tag, shelf.field(0, tag, ' ', ' '), -1);
        }
        char[] wrongIndicators = {'a', '/', ':', '!', 0, 29, 31, 127, 0x130, 0x120, 0xFFFF};
        for (char c : wrongIndicators) {
            CHECK.due("first indicator " + (int) c, shelf.field(0, 10, c, ' '), -1);
            CHECK.due("second indicator " + (int) c, shelf.field(0, 999, '1', c), -1);
        }
        for (int record : NO_NUMBERS) {
            CHECK.due("field of record " + record, shelf.field(record, 10, ' ', ' '), -1);
        }
        CHECK.due("field of record 1", shelf.field(1, 10, ' ', ' '), -1);
        CHECK.due("nothing was added", shelf.many(0, -1), 4);
        for (int i = 4; i < 8; i++) {
            CHECK.due("field " + i, shelf.field(0, 5, ' ', ' '), i);
        }
        CHECK.due("a ninth field", shelf.field(0, 5, ' ', ' '), -2);
        CHECK.due("a ninth field with a wrong tag", shelf.field(0, 0, ' ', ' '), -1);
        CHECK.due("a ninth field with a wrong indicator", shelf.field(0, 10, 'x', ' '), -1);
        CHECK.due("eight fields", shelf.many(0, -1), 8);
    }

    private static void newSubfields() {
        RecordShelf shelf = new RecordShelf();
        shelf.fresh();
        shelf.field(0, 9, ' ', ' ');
        shelf.field(0, 10, ' ', ' ');
        CHECK.due("subfield of a simple field", shelf.subfield(0, 0, 'a'), -1);
        char[] wrongCodes = {'A', 'Z', ' ', '/', ':', '`', '{', '*', 0, 31, 0x161, 0xFFFF};
        for (char code : wrongCodes) {
            CHECK.due("subfield with code " + (int) code, shelf.subfield(0, 1, code), -1);
        }
        for (int number : NO_NUMBERS) {
            CHECK.due("subfield of record " + number, shelf.subfield(number, 1, 'a'), -1);
            CHECK.due("subfield of field " + number, shelf.subfield(0, number, 'a'), -1);
        }
        CHECK.due("subfield of field 2", shelf.subfield(0, 2, 'a'), -1);
        CHECK.due("z", shelf.subfield(0, 1, 'z'), 1);
        CHECK.due("0", shelf.subfield(0, 1, '0'), 2);
        CHECK.due("a again", shelf.subfield(0, 1, 'a'), 3);
        CHECK.due("a fifth one", shelf.subfield(0, 1, '9'), -2);
        CHECK.due("a fifth one with no code", shelf.subfield(0, 1, 'A'), -1);
        CHECK.due("subfields", shelf.many(0, 1), 4);
        CHECK.due("code 1", shelf.shown(0, 1, 1, -1), 'z');
        CHECK.due("code 2", shelf.shown(0, 1, 2, -1), '0');
        CHECK.due("code 3", shelf.shown(0, 1, 3, -1), 'a');
        CHECK.due("it is empty", shelf.shown(0, 1, 3, 0), -1);
        shelf.field(0, 20, ' ', ' ');
        CHECK.due("code 9", shelf.subfield(0, 2, '9'), 1);
    }

    private static void appending() {
        RecordShelf shelf = new RecordShelf();
        shelf.fresh();
        shelf.field(0, 9, ' ', ' ');
        shelf.field(0, 10, ' ', ' ');
        shelf.subfield(0, 1, 'b');
        CHECK.due("a space", shelf.append(0, 1, 1, ' '), 1);
        CHECK.due("the last sign", shelf.append(0, 1, 1, '~'), 2);
        CHECK.due("to a simple field", shelf.append(0, 0, 0, '*'), 1);
        CHECK.dueText("what it has", Texts.shown(shelf, 0, 1, 1), " ~");
        CHECK.dueText("what the other one has", Texts.shown(shelf, 0, 1, 0), "");
        CHECK.dueText("what the simple one has", Texts.shown(shelf, 0, 0, 0), "*");
        char[] notPlain = {0, 28, 29, 30, 31, 127, 255, 256, 0x141, 0xFFFF};
        for (char c : notPlain) {
            CHECK.due("append of " + (int) c, shelf.append(0, 1, 1, c), -1);
        }
        for (int number : NO_NUMBERS) {
            CHECK.due("append to record " + number, shelf.append(number, 1, 1, 'a'), -1);
            CHECK.due("append to field " + number, shelf.append(0, number, 0, 'a'), -1);
            CHECK.due("append to subfield " + number, shelf.append(0, 1, number, 'a'), -1);
        }
        CHECK.due("append to subfield 2 of 2", shelf.append(0, 1, 2, 'a'), -1);
        CHECK.due("append to subfield 1 of a simple field", shelf.append(0, 0, 1, 'a'), -1);
        for (int i = 3; i <= 20; i++) {
            CHECK.due("append " + i, shelf.append(0, 1, 1, 'q'), i);
        }
        CHECK.due("append of a 21st", shelf.append(0, 1, 1, 'q'), -2);
        CHECK.due("append of a 21st that is not plain", shelf.append(0, 1, 1, (char) 30), -1);
        CHECK.dueText("twenty", Texts.shown(shelf, 0, 1, 1), " ~" + "q".repeat(18));
    }

    private static void dropping() {
        RecordShelf shelf = new RecordShelf();
        shelf.fresh();
        shelf.fresh();
        for (int i = 0; i < 8; i++) {
            shelf.field(0, 100 + i, ' ', (char) ('0' + i));
            shelf.append(0, i, 0, (char) ('A' + i));
        }
        shelf.subfield(0, 3, 'c');
        for (int number : NO_NUMBERS) {
            CHECK.due("drop of record " + number, shelf.drop(number, 0), false);
            if (number != 6) {
                CHECK.due("drop of field " + number, shelf.drop(0, number), false);
            }
        }
        CHECK.due("drop of field 8", shelf.drop(0, 8), false);
        CHECK.due("drop of a record without fields", shelf.drop(1, 0), false);
        CHECK.due("drop of field 2", shelf.drop(0, 2), true);
        CHECK.due("seven are left", shelf.many(0, -1), 7);
        CHECK.due("field 1 stays", shelf.mark(0, 1, 0), 101);
        CHECK.due("field 3 is field 2", shelf.mark(0, 2, 0), 103);
        CHECK.due("with its subfields", shelf.many(0, 2), 2);
        CHECK.due("and its indicator", shelf.mark(0, 2, 2), '3');
        CHECK.dueText("and its text", Texts.shown(shelf, 0, 2, 0), "D");
        CHECK.due("field 7 is field 6", shelf.mark(0, 6, 0), 107);
        CHECK.due("there is no field 7", shelf.mark(0, 7, 0), -1);
        CHECK.due("drop of the last", shelf.drop(0, 6), true);
        CHECK.due("drop of it again", shelf.drop(0, 6), false);
        CHECK.due("drop of the first", shelf.drop(0, 0), true);
        CHECK.due("the first is now", shelf.mark(0, 0, 0), 101);
        CHECK.due("a new field is the last", shelf.field(0, 5, ' ', ' '), 5);
        CHECK.due("it is simple", shelf.mark(0, 5, 2), 0);
        CHECK.due("it has no first indicator", shelf.mark(0, 5, 1), 0);
        CHECK.due("and has one subfield", shelf.many(0, 5), 1);
        CHECK.dueText("which is empty", Texts.shown(shelf, 0, 5, 0), "");
        shelf.append(0, 5, 0, 'x');
        CHECK.dueText("it shares nothing with the others", Texts.shown(shelf, 0, 4, 0), "G");
    }

    private static void asking() {
        RecordShelf shelf = new RecordShelf();
        shelf.fresh();
        shelf.field(0, 245, '1', '2');
        Texts.append(shelf, 0, 0, 0, "xyz");
        CHECK.due("many with any field below 0", shelf.many(0, Integer.MIN_VALUE), 1);
        CHECK.due("many of no record", shelf.many(1, -1), -1);
        CHECK.due("many of no record's field", shelf.many(1, 0), -1);
        CHECK.due("many of no field", shelf.many(0, 1), -1);
        for (int number : NO_NUMBERS) {
            CHECK.due("many of record " + number, shelf.many(number, -1), -1);
            CHECK.due("mark of record " + number, shelf.mark(number, 0, 0), -1);
            CHECK.due("mark of field " + number, shelf.mark(0, number, 0), -1);
            CHECK.due("mark of what " + number, shelf.mark(0, 0, number), -1);
            CHECK.due("shown of record " + number, shelf.shown(number, 0, 0, 0), -1);
            CHECK.due("shown of field " + number, shelf.shown(0, number, 0, 0), -1);
            CHECK.due("shown of subfield " + number, shelf.shown(0, 0, number, 0), -1);
            if (number != -1) {
                CHECK.due("shown of character " + number, shelf.shown(0, 0, 0, number), -1);
            }
        }
        CHECK.due("mark of what 3", shelf.mark(0, 0, 3), -1);
        CHECK.due("shown of subfield 1", shelf.shown(0, 0, 1, -1), -1);
        CHECK.due("shown of the last character", shelf.shown(0, 0, 0, 2), 'z');
        CHECK.due("shown behind it", shelf.shown(0, 0, 0, 3), -1);
        CHECK.due("shown of the code", shelf.shown(0, 0, 0, -1), 'a');
    }

    public static void main(String[] args) {
        freshRecords();
        newFields();
        newSubfields();
        appending();
        dropping();
        asking();
        CHECK.end();
    }
}
