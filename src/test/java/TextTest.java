/** Promises 1 to 4: a new object, feed, cut, letter. */
public final class TextTest {
    private static final Check CHECK = new Check("TextTest");

    private static void newObject() {
        RecordShelf shelf = new RecordShelf();
        CHECK.due("letter(0) of a new shelf", shelf.letter(0), -1);
        CHECK.due("cut(5) of a new shelf", shelf.cut(5), 0);
        CHECK.due("many(0, -1) of a new shelf", shelf.many(0, -1), -1);
        CHECK.due("many(-1, -1) of a new shelf", shelf.many(-1, -1), -1);
        CHECK.due("write(0) of a new shelf", shelf.write(0), -1);
        CHECK.due("heading(0, 0) of a new shelf", shelf.heading(0, 0), -1);
        CHECK.due("place() of a new shelf", shelf.place(), -1);
        CHECK.due("list of a new shelf", shelf.list(245, '*'), 0);
        CHECK.due("find of a new shelf", shelf.find(0, '*', 1), 0);
        RecordShelf other = new RecordShelf();
        shelf.fresh();
        shelf.feed('x', 1);
        CHECK.due("another shelf has no record", other.many(0, -1), -1);
        CHECK.due("another shelf has no text", other.letter(0), -1);
    }

    private static void feeding() {
        RecordShelf shelf = new RecordShelf();
        CHECK.due("feed abc", shelf.feed(0x616263L, 3), 3);
        CHECK.dueText("the highest byte first", Texts.get(shelf), "abc");
        CHECK.due("only the lowest bytes count", shelf.feed(0xFF00FF0041424344L, 2), 5);
        CHECK.dueText("two lowest bytes", Texts.get(shelf), "abcCD");
        CHECK.due("eight bytes", shelf.feed(0x1D1E1F20307E7A41L, 8), 13);
        CHECK.dueText("eight bytes in order", Texts.get(shelf), "abcCD\u001d\u001e\u001f 0~zA");
        CHECK.due("letter of the last", shelf.letter(12), 'A');
        int[] wrongCounts = {0, -1, 9, 16, Integer.MIN_VALUE, Integer.MAX_VALUE};
        for (int n : wrongCounts) {
            CHECK.due("feed with n = " + n, shelf.feed(0x6161616161616161L, n), -1);
        }
        int[] wrongCodes = {0, 28, 127, 128, 200, 255};
        for (int code : wrongCodes) {
            for (int at = 0; at < 8; at++) {
                long characters = 0x6161616161616161L & ~(255L << 8 * at) | (long) code << 8 * at;
                CHECK.due("feed of code " + code + " at " + at, shelf.feed(characters, 8), -1);
                CHECK.due("cut after a refused feed", shelf.cut(600), 13);
            }
        }
        CHECK.due("the edges of the codes", shelf.feed(0x1D7EL, 2), 15);
    }

    private static void room() {
        RecordShelf shelf = new RecordShelf();
        Texts.feed(shelf, "x".repeat(598));
        CHECK.due("feed of three at 598", shelf.feed(0x616161L, 3), -2);
        CHECK.due("a wrong code comes before ROOM", shelf.feed(0x61611CL, 3), -1);
        CHECK.due("a wrong n comes before ROOM", shelf.feed(0x616161L, 9), -1);
        CHECK.due("letter(598) is not there", shelf.letter(598), -1);
        CHECK.due("feed of two at 598", shelf.feed(0x7172L, 2), 600);
        CHECK.due("letter(599)", shelf.letter(599), 0x72);
        CHECK.due("letter(600)", shelf.letter(600), -1);
        CHECK.due("feed of one at 600", shelf.feed(0x61L, 1), -2);
        CHECK.due("cut(600)", shelf.cut(600), 600);
    }

    private static void cutting() {
        RecordShelf shelf = new RecordShelf();
        Texts.feed(shelf, "abcdef");
        CHECK.due("cut(7)", shelf.cut(7), 6);
        CHECK.due("cut(6)", shelf.cut(6), 6);
        CHECK.due("cut(greatest)", shelf.cut(Integer.MAX_VALUE), 6);
        CHECK.due("cut(4)", shelf.cut(4), 4);
        CHECK.dueText("the first four are kept", Texts.get(shelf), "abcd");
        CHECK.due("letter behind the cut", shelf.letter(4), -1);
        CHECK.due("letter(-1)", shelf.letter(-1), -1);
        CHECK.due("letter(least)", shelf.letter(Integer.MIN_VALUE), -1);
        CHECK.due("letter(greatest)", shelf.letter(Integer.MAX_VALUE), -1);
        CHECK.due("feed behind the cut", shelf.feed('z', 1), 5);
        CHECK.dueText("fed behind the cut", Texts.get(shelf), "abcdz");
        CHECK.due("cut(-1)", shelf.cut(-1), 0);
        CHECK.due("letter(0) of none", shelf.letter(0), -1);
        Texts.feed(shelf, "abc");
        CHECK.due("cut(least)", shelf.cut(Integer.MIN_VALUE), 0);
        Texts.feed(shelf, "abc");
        CHECK.due("cut(0)", shelf.cut(0), 0);
    }

    public static void main(String[] args) {
        newObject();
        feeding();
        room();
        cutting();
        CHECK.end();
    }
}
