/** The boundary cases of THE TEXT and of promises 1 to 4, each sentence by itself. */
public final class TextEdgesTest {
    private static final int NONE = RecordShelf.NONE;
    private static final int ROOM = RecordShelf.ROOM;
    private static final int LEAST = Integer.MIN_VALUE;
    private static final int GREATEST = Integer.MAX_VALUE;
    private static final Check CHECK = new Check("TextEdgesTest");

    /** A text in which neighbours differ, so that a character at a wrong place is seen. */
    private static String sample(int length) {
        StringBuilder text = new StringBuilder();
        for (int i = 0; i < length; i++) {
            text.append((char) ('A' + i % 50));
        }
        return text.toString();
    }

    private static RecordShelf shelfWith(int length) {
        RecordShelf shelf = new RecordShelf();
        Texts.feed(shelf, sample(length));
        return shelf;
    }

    private static void atMostSixHundred() {
        CHECK.says("THE TEXT has at most 600 characters");
        for (int n = 1; n <= 8; n++) {
            RecordShelf shelf = shelfWith(600 - n);
            CHECK.due("feed of " + n + " up to 600", shelf.feed(0x7172737475767778L, n), 600);
            CHECK.due("the last of " + n, shelf.letter(599), 0x78);
            CHECK.due("the first of " + n, shelf.letter(600 - n), 0x78 - n + 1);
            CHECK.due("the one before " + n, shelf.letter(599 - n), 'A' + (599 - n) % 50);
        }
        RecordShelf byHand = new RecordShelf();
        for (int i = 1; i <= 75; i++) {
            CHECK.due("feed of eight, " + i, byHand.feed(0x4142434445464748L, 8), 8 * i);
        }
        CHECK.due("feed of a 601st", byHand.feed('x', 1), ROOM);
    }

    private static void codesOfTheText() {
        CHECK.says("with the codes 29 .. 126");
        for (int code = 0; code < 256; code++) {
            RecordShelf shelf = new RecordShelf();
            boolean taken = code >= 29 && code <= 126;
            CHECK.due("feed of " + code, shelf.feed(code, 1), taken ? 1 : NONE);
            CHECK.due("letter of " + code, shelf.letter(0), taken ? code : NONE);
        }
    }

    private static void emptyAtFirst() {
        CHECK.says("It is empty at first.");
        CHECK.due("letter(0)", new RecordShelf().letter(0), NONE);
        CHECK.due("cut(600)", new RecordShelf().cut(600), 0);
        CHECK.due("the first feed", new RecordShelf().feed('x', 1), 1);
        RecordShelf shelf = new RecordShelf();
        CHECK.due("read() of it", shelf.read(), RecordShelf.LEADER);
        CHECK.due("its place", shelf.place(), 0);
    }

    private static void newObject() {
        CHECK.says("No records, no text, nothing was listed.");
        RecordShelf shelf = new RecordShelf();
        for (int record = -1; record <= 6; record++) {
            CHECK.due("many(" + record + ", -1)", shelf.many(record, -1), NONE);
            CHECK.due("many(" + record + ", 0)", shelf.many(record, 0), NONE);
            CHECK.due("mark(" + record + ", 0, 0)", shelf.mark(record, 0, 0), NONE);
            CHECK.due("shown(" + record + ", 0, 0, -1)", shelf.shown(record, 0, 0, -1), NONE);
            CHECK.due("field of " + record, shelf.field(record, 1, ' ', ' '), NONE);
            CHECK.due("subfield of " + record, shelf.subfield(record, 0, 'a'), NONE);
            CHECK.due("append to " + record, shelf.append(record, 0, 0, 'a'), NONE);
            CHECK.due("drop of " + record, shelf.drop(record, 0), false);
            CHECK.due("write of " + record, shelf.write(record), NONE);
        }
        CHECK.due("letter(0)", shelf.letter(0), NONE);
        for (int what = -1; what <= 3; what++) {
            CHECK.due("heading(0, " + what + ")", shelf.heading(0, what), NONE);
        }
        CHECK.due("place()", shelf.place(), NONE);
        CHECK.due("list of none", shelf.list(1, '*'), 0);
        CHECK.due("heading of none", shelf.heading(0, 0), NONE);
        CHECK.due("find of none", shelf.find(0, '*', 0), 0);
        CHECK.due("the first record", shelf.fresh(), 0);
    }

    private static void lowestBytes() {
        CHECK.says("Appends the n lowest bytes of a long to the text, as characters, the highest first.");
        String letters = "ABCDEFGH";
        for (int n = 1; n <= 8; n++) {
            RecordShelf shelf = new RecordShelf();
            CHECK.due("feed of " + n, shelf.feed(0x4142434445464748L, n), n);
            CHECK.dueText("what was fed", Texts.get(shelf), letters.substring(8 - n));
        }
        for (int n = 1; n <= 7; n++) {
            long low = 0x4142434445464748L & (1L << 8 * n) - 1;
            RecordShelf shelf = new RecordShelf();
            CHECK.due("0 above " + n, shelf.feed(low, n), n);
            CHECK.due("255 above " + n, shelf.feed(low | -1L << 8 * n, n), 2 * n);
            CHECK.due("the least long above " + n, shelf.feed(low | Long.MIN_VALUE, n), 3 * n);
            CHECK.dueText("what was fed", Texts.get(shelf), letters.substring(8 - n).repeat(3));
        }
    }

    private static void longsAtTheEdges() {
        CHECK.says("or one of them is not 29 .. 126");
        RecordShelf shelf = new RecordShelf();
        long[] wrong = {Long.MIN_VALUE, Long.MAX_VALUE, 0, -1};
        for (long characters : wrong) {
            for (int n = 1; n <= 8; n++) {
                CHECK.due("feed(" + characters + ", " + n + ")", shelf.feed(characters, n), NONE);
            }
        }
        CHECK.due("nothing was fed", shelf.cut(600), 0);
        CHECK.due("eight times 29", shelf.feed(0x1D1D1D1D1D1D1D1DL, 8), 8);
        CHECK.due("eight times 126", shelf.feed(0x7E7E7E7E7E7E7E7EL, 8), 16);
        CHECK.dueText("what was fed", Texts.get(shelf), "\u001d".repeat(8) + "~".repeat(8));
    }

    private static void oneOfThem() {
        CHECK.says("NONE when n is not 1 .. 8 or one of them is not 29 .. 126");
        int[] wrong = {0, 28, 127, 128, 255};
        for (int n = 1; n <= 8; n++) {
            RecordShelf shelf = shelfWith(3);
            for (int at = 0; at < 8; at++) {
                for (int code : wrong) {
                    long characters = 0x6161616161616161L & ~(255L << 8 * at) | (long) code << 8 * at;
                    if (at < n) {
                        CHECK.due("code " + code + " at " + at + " of " + n, shelf.feed(characters, n), NONE);
                    }
                }
            }
            CHECK.dueText("the text stays", Texts.get(shelf), sample(3));
        }
    }

    private static void howMany() {
        CHECK.says("NONE when n is not 1 .. 8");
        int[] wrong = {0, 9, -1, 10, 16, 257, LEAST, LEAST + 1, GREATEST};
        RecordShelf shelf = shelfWith(3);
        for (int n : wrong) {
            CHECK.due("feed of " + n, shelf.feed(0x6161616161616161L, n), NONE);
        }
        CHECK.dueText("the text stays", Texts.get(shelf), sample(3));
        CHECK.due("feed of 1", shelf.feed(0x6161616161616161L, 1), 4);
        CHECK.due("feed of 8", shelf.feed(0x6161616161616161L, 8), 12);
    }

    private static void noRoom() {
        CHECK.says("ROOM when it would have more than 600.");
        for (int n = 1; n <= 8; n++) {
            RecordShelf shelf = shelfWith(601 - n);
            CHECK.due("feed of " + n + " up to 601", shelf.feed(0x6162636465666768L, n), ROOM);
            CHECK.due("n 0", shelf.feed(0x6162636465666768L, 0), NONE);
            CHECK.due("n 9", shelf.feed(0x6162636465666768L, 9), NONE);
            CHECK.due("a wrong character", shelf.feed(0x616263646566677FL, n), NONE);
            CHECK.due("how many it has", shelf.cut(600), 601 - n);
            CHECK.due("its last one", shelf.letter(600 - n), 'A' + (600 - n) % 50);
            CHECK.due("none behind it", shelf.letter(601 - n), NONE);
            if (n > 1) {
                CHECK.due("feed of one less", shelf.feed(0x6162636465666768L, n - 1), 600);
            }
        }
    }

    private static void keeps() {
        CHECK.says("The text keeps its first n characters (all of them, if it has no more; none for n below 0).");
        int[][] cuts = {{GREATEST, 5}, {6, 5}, {5, 5}, {4, 4}, {1, 1}, {0, 0}, {-1, 0}, {-5, 0}, {-6, 0}, {LEAST, 0}};
        for (int[] cut : cuts) {
            RecordShelf shelf = shelfWith(5);
            CHECK.due("cut(" + cut[0] + ") of five", shelf.cut(cut[0]), cut[1]);
            CHECK.dueText("what is kept", Texts.get(shelf), sample(cut[1]));
            CHECK.due("feed behind it", shelf.feed('x', 1), cut[1] + 1);
            CHECK.dueText("what is fed behind it", Texts.get(shelf), sample(cut[1]) + "x");
        }
        int[][] long600 = {{GREATEST, 600}, {601, 600}, {600, 600}, {599, 599}, {0, 0}, {LEAST, 0}};
        for (int[] cut : long600) {
            RecordShelf shelf = shelfWith(600);
            CHECK.due("cut(" + cut[0] + ") of 600", shelf.cut(cut[0]), cut[1]);
            CHECK.due("there is none behind it", shelf.letter(cut[1]), NONE);
            CHECK.due("feed of one behind it", shelf.feed('x', 1), cut[1] == 600 ? ROOM : cut[1] + 1);
        }
        int[] ofNone = {LEAST, -1, 0, 1, 600, GREATEST};
        for (int n : ofNone) {
            CHECK.due("cut(" + n + ") of an empty text", new RecordShelf().cut(n), 0);
        }
    }

    private static void noLetter() {
        CHECK.says("The code of character i of the text; NONE when there is none.");
        int[] lengths = {0, 1, 5, 599, 600};
        for (int length : lengths) {
            RecordShelf shelf = shelfWith(length);
            CHECK.due("letter(-1) of " + length, shelf.letter(-1), NONE);
            CHECK.due("letter(least) of " + length, shelf.letter(LEAST), NONE);
            CHECK.due("letter(greatest) of " + length, shelf.letter(GREATEST), NONE);
            CHECK.due("the letter behind " + length, shelf.letter(length), NONE);
            if (length > 0) {
                CHECK.due("the first letter of " + length, shelf.letter(0), 'A');
                CHECK.due("the last letter of " + length, shelf.letter(length - 1), 'A' + (length - 1) % 50);
            }
        }
        RecordShelf shelf = shelfWith(5);
        shelf.cut(3);
        CHECK.due("the last that was kept", shelf.letter(2), 'C');
        CHECK.due("the first that was cut", shelf.letter(3), NONE);
    }

    public static void main(String[] args) {
        atMostSixHundred();
        codesOfTheText();
        emptyAtFirst();
        newObject();
        lowestBytes();
        longsAtTheEdges();
        oneOfThem();
        howMany();
        noRoom();
        keeps();
        noLetter();
        CHECK.end();
    }
}
