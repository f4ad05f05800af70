/** The boundary cases of TO READ as far as the leader, the directory and the total, each sentence by itself. */
public final class LeaderEdgesTest {
    private static final int LEADER = RecordShelf.LEADER;
    private static final int DIRECTORY = RecordShelf.DIRECTORY;
    private static final int TOTAL = RecordShelf.TOTAL;
    private static final int FIELD = RecordShelf.FIELD;
    private static final String LETTERS = "nam a   ";
    /** B is 61; the fields start at 0, 3 and 12. */
    private static final String THREE = Texts.record(LETTERS, "001ab", "24510$aMoby", "009");
    private static final Check CHECK = new Check("LeaderEdgesTest");

    private static void taken(String what, String text) {
        RecordShelf shelf = new RecordShelf();
        CHECK.read(what, shelf, text, 0, RecordShelf.NONE);
        CHECK.dueText("the text of " + what, Texts.get(shelf).substring(0, 24), text.substring(0, 24));
    }

    private static String withPart(String text, int at, String part) {
        return text.substring(0, at) + part + text.substring(at + part.length());
    }

    /** A record of just so many characters: each simple field takes up to 33 of them. */
    private static String recordOf(int length) {
        int rest = length - 26;
        int count = (rest + 32) / 33;
        String[] fields = new String[count];
        for (int i = 0; i < count; i++) {
            int size = Math.min(33, rest - 13 * (count - 1 - i));
            fields[i] = "00" + (i + 1) + "x".repeat(size - 13);
            rest -= size;
        }
        return Texts.record(LETTERS, fields);
    }

    private static void lengthOfTheText() {
        CHECK.says("the first five the length of the text");
        int[] lengths = {26, 39, 99, 100, 101, 199, 200, 290};
        for (int length : lengths) {
            String text = recordOf(length);
            CHECK.due("how long it is", text.length(), length);
            taken("a text of " + length, text);
            int[] told = {length - 1, length + 1, 0, 10000 + length, 20000 + length, length + 1000, 99999};
            for (int other : told) {
                String digits = String.format("%05d", other);
                int place = 0;
                while (digits.charAt(place) == text.charAt(place)) {
                    place++;
                }
                CHECK.fault(length + " told as " + other, withPart(text, 0, digits), LEADER, place);
            }
        }
        for (int i = 0; i < 5; i++) {
            char[] wrong = {'/', ':', ' ', 'a', Texts.END, Texts.FIELD, Texts.SUB};
            for (char c : wrong) {
                CHECK.fault("code " + (int) c + " at " + i, Texts.with(THREE, i, c), LEADER, i);
            }
        }
    }

    private static void plainLetters() {
        CHECK.says("letters plain");
        int[] places = {5, 6, 7, 8, 9, 17, 18, 19};
        for (int at : places) {
            taken("a space at " + at, Texts.with(THREE, at, ' '));
            taken("126 at " + at, Texts.with(THREE, at, '~'));
            CHECK.fault("31 at " + at, Texts.with(THREE, at, Texts.SUB), LEADER, at);
            CHECK.fault("30 at " + at, Texts.with(THREE, at, Texts.FIELD), LEADER, at);
            CHECK.fault("29 at " + at, Texts.with(THREE, at, Texts.END), LEADER, at);
        }
    }

    private static void fixedDigits() {
        CHECK.says("LEADER one of the first 24 characters is not as said");
        int[] places = {10, 11, 20, 21, 22, 23};
        for (int at : places) {
            for (char c = 29; c <= 126; c++) {
                if (c != THREE.charAt(at)) {
                    CHECK.fault("code " + (int) c + " at " + at, Texts.with(THREE, at, c), LEADER, at);
                }
            }
        }
    }

    private static void fiveDigitsOfB() {
        CHECK.says("B five digits");
        char[] wrong = {'/', ':', ' ', 'a', '~', Texts.END, Texts.FIELD, Texts.SUB};
        for (int at = 12; at < 17; at++) {
            for (char c : wrong) {
                CHECK.fault("code " + (int) c + " at " + at, Texts.with(THREE, at, c), LEADER, at);
                String alsoWrong = withPart(THREE, 12, "99999");
                CHECK.fault("code " + (int) c + " at " + at + " of a wrong B", Texts.with(alsoWrong, at, c), LEADER, at);
            }
        }
    }

    private static void someN() {
        CHECK.says("and for some n from 0 to 8");
        String filler = "00233nam a2200000   4500" + "0".repeat(209);
        for (int base = 0; base <= 160; base++) {
            boolean right = base >= 25 && base <= 121 && (base - 25) % 12 == 0;
            String text = withPart(filler, 12, String.format("%05d", base));
            int place = !right ? 12 : base == 25 ? 24 : 26;
            CHECK.fault("B " + base, text, right ? DIRECTORY : LEADER, place);
        }
        int[] great = {229, 232, 233, 1021, 10025, 12025, 99997, 99999};
        for (int base : great) {
            CHECK.fault("B " + base, withPart(filler, 12, String.format("%05d", base)), LEADER, 12);
        }
        for (int n = 0; n <= 8; n++) {
            String[] fields = new String[n];
            for (int i = 0; i < n; i++) {
                fields[i] = "00" + (i + 1);
            }
            String text = Texts.record(LETTERS, fields);
            RecordShelf shelf = new RecordShelf();
            CHECK.read("n = " + n, shelf, text, 0, RecordShelf.NONE);
            CHECK.due("fields of n = " + n, shelf.many(0, -1), n);
        }
    }

    private static void lessThanTheLength() {
        CHECK.says("and less than the length, else (when they are digits) at 12");
        for (int n = 0; n <= 8; n++) {
            int base = 25 + 12 * n;
            String text = "00000nam a22" + String.format("%05d", base) + "   4500" + "0".repeat(120);
            for (int length = base - 1; length <= base + 2; length++) {
                String cut = String.format("%05d", length) + text.substring(5, length);
                int place = length <= base ? 12 : n == 0 ? 24 : 26;
                CHECK.fault("B " + base + " of " + length, cut, length <= base ? LEADER : DIRECTORY, place);
            }
        }
        String wrong = Texts.with(withPart(THREE, 12, "00026"), 17, Texts.SUB);
        CHECK.fault("a wrong B before a wrong letter", wrong, LEADER, 12);
        CHECK.fault("a wrong B before a wrong 4500", withPart(withPart(THREE, 12, "00026"), 20, "9"), LEADER, 12);
        CHECK.fault("a wrong 22 before a wrong B", withPart(withPart(THREE, 12, "00026"), 11, "9"), LEADER, 11);
    }

    private static void missing() {
        CHECK.says("or the length of the text where a character is missing");
        for (int n = 0; n <= 16; n++) {
            String text = String.format("%05d", n).substring(0, Math.min(n, 5)) + THREE.substring(Math.min(n, 5), n);
            CHECK.fault("a text of " + n, text, LEADER, n);
        }
        for (int n = 17; n <= 25; n++) {
            String text = String.format("%05d", n) + Texts.record(LETTERS).substring(5, n);
            CHECK.fault("a text of " + n + ", no longer than B", text, LEADER, 12);
        }
        CHECK.fault("a text of 9 told as 8", "00008nam ", LEADER, 4);
    }

    private static void noDigit() {
        CHECK.says("DIRECTORY in its 12 * n + 1 characters: at one that is no digit");
        char[] wrong = {'/', ':', ' ', 'a', Texts.END, Texts.FIELD, Texts.SUB};
        for (int at = 24; at < 60; at++) {
            for (char c : wrong) {
                CHECK.fault("code " + (int) c + " at " + at, Texts.with(THREE, at, c), DIRECTORY, at);
            }
        }
    }

    private static void digitOfAStart() {
        CHECK.says("or not the digit (of a start)");
        int[] starts = {0, 3, 12};
        for (int entry = 0; entry < 3; entry++) {
            int at = 24 + 12 * entry + 7;
            for (int i = 0; i < 5; i++) {
                for (char c = '0'; c <= '9'; c++) {
                    if (c != THREE.charAt(at + i)) {
                        CHECK.fault(c + " at " + (at + i), Texts.with(THREE, at + i, c), DIRECTORY, at + i);
                    }
                }
            }
            String more = String.format("%05d", starts[entry] + 1);
            CHECK.fault("a start of one more", withPart(THREE, at, more), DIRECTORY, at + 4);
        }
        CHECK.fault("a start of one less", withPart(THREE, 24 + 12 + 7, "00002"), DIRECTORY, 24 + 12 + 11);
        String swapped = Texts.framed(LETTERS, "002000300003001000300000", Texts.body("ab") + Texts.body("cd"));
        CHECK.fault("fields that are not in the order of the directory", swapped, DIRECTORY, 24 + 11);
        StringBuilder directory = new StringBuilder();
        for (int i = 0; i < 8; i++) {
            directory.append(String.format("9999999%05d", 9999 * i));
        }
        CHECK.fault("the greatest starts", Texts.framed(LETTERS, directory.toString(), "x"), TOTAL, 121);
        CHECK.fault("the greatest start and one", Texts.framed(LETTERS, directory.toString().replace("69993", "69994"), "x"),
            DIRECTORY, 24 + 95);
    }

    private static void thirtyBehindIt() {
        CHECK.says("or the 30 that must be there");
        for (int n = 0; n <= 8; n++) {
            String[] fields = new String[n];
            for (int i = 0; i < n; i++) {
                fields[i] = "00" + (i + 1);
            }
            String text = Texts.record(LETTERS, fields);
            char[] wrong = {Texts.END, Texts.SUB, ' ', '0', '~'};
            for (char c : wrong) {
                CHECK.fault("code " + (int) c + " behind " + n, Texts.with(text, 24 + 12 * n, c), DIRECTORY, 24 + 12 * n);
            }
        }
    }

    private static void tagOfZeros() {
        CHECK.says("at the last digit of a tag of 000");
        String[] fields = new String[8];
        for (int i = 0; i < 8; i++) {
            fields[i] = "00" + (i + 1);
        }
        String text = Texts.record(LETTERS, fields);
        for (int i = 0; i < 8; i++) {
            int at = 24 + 12 * i;
            CHECK.fault("tag 000 of field " + i, withPart(text, at, "000"), DIRECTORY, at + 2);
            CHECK.fault("tag 000 and a length of 0000", withPart(text, at, "0000000"), DIRECTORY, at + 2);
            CHECK.fault("tag 000 and no length", withPart(text, at, "000x"), DIRECTORY, at + 2);
            RecordShelf shelf = new RecordShelf();
            CHECK.read("tag 001 of field " + i, shelf, withPart(text, at, "001"), 0, RecordShelf.NONE);
            CHECK.due("its tag", shelf.mark(0, i, 0), 1);
        }
        int[] tags = {10, 11, 99, 100, 101, 998, 999};
        for (int tag : tags) {
            RecordShelf shelf = new RecordShelf();
            CHECK.read("tag " + tag, shelf, Texts.record(LETTERS, String.format("%03d", tag) + "00$a"), 0, RecordShelf.NONE);
            CHECK.due("the tag " + tag, shelf.mark(0, 0, 0), tag);
        }
    }

    /** A record with one field of a tag and a told length, and so many characters 0 for it. */
    private static String told(int tag, int length) {
        return Texts.framed(LETTERS, String.format("%03d%04d00000", tag, length), "0".repeat(length));
    }

    private static void leastLengths() {
        CHECK.says("or of a length below 2");
        int[] divided = {10, 11, 245, 999};
        for (int tag : divided) {
            CHECK.fault("length 0 of " + tag, told(tag, 0), DIRECTORY, 30);
            CHECK.fault("length 1 of " + tag, told(tag, 1), DIRECTORY, 30);
            CHECK.fault("length 2 of " + tag, told(tag, 2), FIELD, 38);
        }
        CHECK.fault("length 0 of the second field",
            Texts.framed(LETTERS, "001000100000010000000001", Texts.body("")), DIRECTORY, 42);
        CHECK.fault("length 1 and a wrong start", Texts.framed(LETTERS, "010000100009", "0"), DIRECTORY, 30);
    }

    private static void leastSimpleLengths() {
        CHECK.says("(of a simple field below 1)");
        for (int tag = 1; tag <= 9; tag++) {
            CHECK.fault("length 0 of " + tag, told(tag, 0), DIRECTORY, 30);
            CHECK.fault("length 1 of " + tag + " without 30", told(tag, 1), FIELD, 37);
            RecordShelf shelf = new RecordShelf();
            CHECK.read("length 1 of " + tag, shelf, Texts.record(LETTERS, "00" + tag), 0, RecordShelf.NONE);
            CHECK.due("its subfields", shelf.many(0, 0), 1);
            CHECK.due("its text", shelf.shown(0, 0, 0, 0), RecordShelf.NONE);
        }
    }

    private static void totals() {
        CHECK.says("Then TOTAL, at B, when B and all lengths and 1 are not the length of the text.");
        CHECK.fault("no fields, one character more", "00027nam a2200025   4500\u001e\u001d\u001d", TOTAL, 25);
        CHECK.read("no fields", new RecordShelf(), "00026nam a2200025   4500\u001e\u001d", 0, RecordShelf.NONE);
        int last = 24 + 24 + 6;
        CHECK.due("the last digit of the last length", THREE.charAt(last), '1');
        CHECK.fault("the last length one more", Texts.with(THREE, last, '2'), TOTAL, 61);
        String two = Texts.record(LETTERS, "001ab", "009c");
        CHECK.fault("the last length one less", withPart(two, 39, "0001"), TOTAL, 49);
        CHECK.fault("the greatest length", withPart(two, 39, "9999"), TOTAL, 49);
        String longer = String.format("%05d", THREE.length() + 1) + THREE.substring(5);
        CHECK.fault("a character more at the end", longer + Texts.END, TOTAL, 61);
        String shorter = String.format("%05d", THREE.length() - 1) + THREE.substring(5);
        CHECK.fault("a character less at the end", shorter.substring(0, THREE.length() - 1), TOTAL, 61);
        CHECK.fault("DIRECTORY before TOTAL", Texts.with(Texts.with(THREE, last, '2'), 60, 'x'), DIRECTORY, 60);
        CHECK.fault("TOTAL before FIELD", Texts.with(Texts.with(THREE, last, '2'), 61, Texts.SUB), TOTAL, 61);
        CHECK.fault("TOTAL before END", withPart(longer + "x", 61, "\u001e"), TOTAL, 61);
    }

    public static void main(String[] args) {
        lengthOfTheText();
        plainLetters();
        fixedDigits();
        fiveDigitsOfB();
        someN();
        lessThanTheLength();
        missing();
        noDigit();
        digitOfAStart();
        thirtyBehindIt();
        tagOfZeros();
        leastLengths();
        leastSimpleLengths();
        totals();
        CHECK.end();
    }
}
