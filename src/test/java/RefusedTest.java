import java.util.function.ToIntFunction;

/**
 * "A call that is refused (it answers below 0, or false) changes nothing but what is said": each refused call
 * is made on one of two shelves that are alike, and then both are asked and used in the same way.
 */
public final class RefusedTest {
    private static final int NONE = RecordShelf.NONE;
    private static final int ROOM = RecordShelf.ROOM;
    private static final int LEAST = Integer.MIN_VALUE;
    private static final int GREATEST = Integer.MAX_VALUE;
    private static final int[] NO_NUMBERS = {LEAST, -1, 6, 7, 8, 100, GREATEST};
    private static final int[] NO_TAGS = {LEAST, -1, 0, 1000, GREATEST};
    private static final String LETTERS = "ZYXWVUTS";
    private static final String TWENTY = "abcdefghij KLMNOPQR~";
    private static final Check CHECK = new Check("RefusedTest");

    /** How the shelves are before the refused call. */
    private enum State {
        NEW, SMALL, FULL;

        RecordShelf shelf() {
            RecordShelf shelf = new RecordShelf();
            if (this != NEW) {
                build(shelf);
            }
            if (this == FULL) {
                fill(shelf);
            }
            return shelf;
        }

        /** Two records, a list, a text, and a place where a fault was met. */
        private static void build(RecordShelf shelf) {
            shelf.fresh();
            shelf.field(0, 245, '1', '0');
            Texts.append(shelf, 0, 0, 0, "Moby");
            shelf.subfield(0, 0, 'b');
            shelf.field(0, 9, ' ', ' ');
            Texts.append(shelf, 0, 1, 0, "q-");
            Texts.set(shelf, Texts.record("abcdefgh", "24500$aDick"));
            shelf.read();
            shelf.list(245, '*');
            shelf.cut(30);
            shelf.read();
        }

        /** Six records, the first one with eight fields, one of them with four subfields, one with a full text. */
        private static void fill(RecordShelf shelf) {
            for (int i = 2; i < 6; i++) {
                shelf.fresh();
            }
            for (int i = 2; i < 8; i++) {
                shelf.field(0, 2, ' ', ' ');
            }
            shelf.subfield(0, 0, 'c');
            shelf.subfield(0, 0, 'd');
            Texts.append(shelf, 0, 0, 3, TWENTY);
        }
    }

    private static void same(State state, String call, ToIntFunction<RecordShelf> refused, int answer) {
        same(state, "", call, refused, answer, "");
    }

    /** With a text that is set before, and with the answers that may differ, as is said. */
    private static void same(State state, String text, String call, ToIntFunction<RecordShelf> refused, int answer,
            String excepted) {
        RecordShelf with = state.shelf();
        RecordShelf without = state.shelf();
        Texts.feed(with, text);
        Texts.feed(without, text);
        CHECK.due(state + ": " + call, refused.applyAsInt(with), answer);
        CHECK.dueText(state + ": what differs after " + call,
            new Diary(with).firstDifference(new Diary(without), excepted), "");
    }

    private static void feeds() {
        for (State state : State.values()) {
            int[] wrongCounts = {LEAST, -1, 0, 9, GREATEST};
            for (int n : wrongCounts) {
                same(state, "feed of " + n, s -> s.feed(0x6161616161616161L, n), NONE);
            }
            for (int at = 0; at < 8; at++) {
                long characters = 0x6161616161616161L & ~(255L << 8 * at);
                long code127 = characters | 127L << 8 * at;
                same(state, "feed with 0 at " + at, s -> s.feed(characters, 8), NONE);
                same(state, "feed with 127 at " + at, s -> s.feed(code127, 8), NONE);
            }
            same(state, "feed of the least long", s -> s.feed(Long.MIN_VALUE, 8), NONE);
            same(state, "feed of the greatest long", s -> s.feed(Long.MAX_VALUE, 8), NONE);
        }
        for (int n = 1; n <= 8; n++) {
            int count = n;
            same(State.NEW, "y".repeat(601 - n), "feed of " + n, s -> s.feed(0x6161616161616161L, count), ROOM, "");
        }
    }

    private static void letters() {
        int[] wrong = {LEAST, -1, 30, 600, GREATEST};
        for (int i : wrong) {
            same(State.SMALL, "letter(" + i + ")", s -> s.letter(i), NONE);
        }
        same(State.NEW, "letter(0)", s -> s.letter(0), NONE);
    }

    private static void fault(String what, String text, int fault) {
        sameRead(State.NEW, what, text, fault);
        sameRead(State.SMALL, what, text, fault);
    }

    private static void sameRead(State state, String what, String text, int answer) {
        RecordShelf with = state.shelf();
        RecordShelf without = state.shelf();
        Texts.set(with, text);
        Texts.set(without, text);
        CHECK.due(state + ": read() with " + what, with.read(), answer);
        CHECK.dueText(state + ": what differs after read() with " + what,
            new Diary(with).firstDifference(new Diary(without), "place()"), "");
    }

    private static void reads() {
        String right = Texts.record(LETTERS, "001ab", "24599$ax$by$cz$dw", "24599$a" + TWENTY);
        int last = right.length() - 1;
        fault("no text", "", RecordShelf.LEADER);
        fault("a wrong length", Texts.with(right, 0, '9'), RecordShelf.LEADER);
        fault("a wrong letter", Texts.with(right, 9, Texts.SUB), RecordShelf.LEADER);
        fault("a wrong B", Texts.with(right, 16, '2'), RecordShelf.LEADER);
        fault("a wrong last digit of the leader", Texts.with(right, 23, '1'), RecordShelf.LEADER);
        fault("a wrong tag", Texts.with(right, 49, 'x'), RecordShelf.DIRECTORY);
        fault("a wrong end of the directory", Texts.with(right, 60, 'x'), RecordShelf.DIRECTORY);
        fault("a wrong total", Texts.with(right, 54, '9'), RecordShelf.TOTAL);
        fault("a wrong first field", Texts.with(right, 61, Texts.SUB), RecordShelf.FIELD);
        fault("a wrong end of the last field", Texts.with(right, last - 1, 'x'), RecordShelf.FIELD);
        fault("a wrong end", Texts.with(right, last, 'x'), RecordShelf.END);
        fault("21 characters", Texts.record(LETTERS, "24599$aq", "24599$a" + TWENTY + "z"), ROOM);
        fault("five subfields", Texts.record(LETTERS, "24599$ap", "24599$a1$b2$c3$d4$e5"), ROOM);
        sameRead(State.FULL, "six records", right, ROOM);
        sameRead(State.FULL, "six records and no text", "", ROOM);
        sameRead(State.FULL, "six records and a fault", Texts.with(right, last, 'x'), ROOM);
    }

    private static void builds() {
        same(State.FULL, "fresh()", RecordShelf::fresh, ROOM);
        for (State state : State.values()) {
            for (int number : NO_NUMBERS) {
                same(state, "field of " + number, s -> s.field(number, 245, '1', '1'), NONE);
                same(state, "subfield of " + number, s -> s.subfield(number, 0, 'a'), NONE);
                same(state, "subfield of 0, " + number, s -> s.subfield(0, absent(number), 'a'), NONE);
                same(state, "append to " + number, s -> s.append(number, 0, 0, 'a'), NONE);
                same(state, "append to 0, " + number, s -> s.append(0, absent(number), 0, 'a'), NONE);
                same(state, "append to 0, 0, " + number, s -> s.append(0, 0, number, 'a'), NONE);
                same(state, "drop of " + number, s -> s.drop(number, 0) ? 1 : 0, 0);
                same(state, "drop of 0, " + number, s -> s.drop(0, absent(number)) ? 1 : 0, 0);
            }
            for (int tag : NO_TAGS) {
                same(state, "field with the tag " + tag, s -> s.field(0, tag, '1', '1'), NONE);
            }
            char[] wrong = {Character.MIN_VALUE, 31, 33, 47, 58, 96, 123, 127, 0x161, Character.MAX_VALUE};
            for (char c : wrong) {
                same(state, "first indicator " + (int) c, s -> s.field(0, 10, c, '1'), NONE);
                same(state, "second indicator " + (int) c, s -> s.field(0, 10, '1', c), NONE);
                same(state, "code " + (int) c, s -> s.subfield(0, 0, c), NONE);
            }
            char[] notPlain = {Character.MIN_VALUE, 29, 30, 31, 127, 0x161, Character.MAX_VALUE};
            for (char c : notPlain) {
                same(state, "append of " + (int) c, s -> s.append(0, 0, 0, c), NONE);
            }
            same(state, "subfield of a simple field", s -> s.subfield(0, 1, 'a'), NONE);
        }
        same(State.FULL, "a ninth field", s -> s.field(0, 245, '1', '1'), ROOM);
        same(State.FULL, "a ninth simple field", s -> s.field(0, 5, '1', '1'), ROOM);
        same(State.FULL, "a fifth subfield", s -> s.subfield(0, 0, 'e'), ROOM);
        same(State.FULL, "a 21st character", s -> s.append(0, 0, 3, 'e'), ROOM);
        same(State.SMALL, "field of the record behind the last", s -> s.field(2, 245, '1', '1'), NONE);
        same(State.SMALL, "subfield of the field behind the last", s -> s.subfield(0, 2, 'a'), NONE);
        same(State.SMALL, "append to the subfield behind the last", s -> s.append(0, 0, 2, 'a'), NONE);
        same(State.SMALL, "drop of the field behind the last", s -> s.drop(0, 2) ? 1 : 0, 0);
    }

    /** The full record has the fields 6 and 7. */
    private static int absent(int number) {
        return number == 6 || number == 7 ? 9 : number;
    }

    private static void writes() {
        for (State state : State.values()) {
            for (int number : NO_NUMBERS) {
                same(state, "write of " + number, s -> s.write(number), NONE);
            }
        }
        same(State.SMALL, "write of the record behind the last", s -> s.write(2), NONE);
        RecordShelf with = tooGreat();
        CHECK.due("write of a record that is too great", with.write(0), ROOM);
        RecordShelf without = tooGreat();
        for (int i = 0; i < 40; i++) {
            CHECK.due("letter(" + i + ") after it", with.letter(i), without.letter(i));
        }
        CHECK.due("how many characters the text has", with.cut(600), without.cut(600));
        CHECK.due("the last one", with.letter(540), 29);
        CHECK.due("fields after it", with.many(0, -1), without.many(0, -1));
        CHECK.due("drop after it", with.drop(0, 7), true);
        CHECK.due("write after it", with.write(0), 588);
    }

    /** A record of 541 characters, and three fields more: 601 characters. */
    private static RecordShelf tooGreat() {
        RecordShelf shelf = new RecordShelf();
        String four = "24511$a" + TWENTY + "$b" + TWENTY + "$c" + TWENTY + "$d" + TWENTY;
        Texts.set(shelf, Texts.record(LETTERS, four, four, four, four, four));
        shelf.read();
        for (int i = 0; i < 3; i++) {
            shelf.field(0, 1, ' ', ' ');
        }
        Texts.append(shelf, 0, 5, 0, TWENTY);
        shelf.append(0, 6, 0, 'z');
        return shelf;
    }

    private static void questions() {
        for (State state : State.values()) {
            for (int number : NO_NUMBERS) {
                same(state, "many of " + number, s -> s.many(number, -1), NONE);
                same(state, "mark of " + number, s -> s.mark(number, 0, 0), NONE);
                same(state, "mark of what " + number, s -> s.mark(0, 0, number), NONE);
                same(state, "shown of " + number, s -> s.shown(number, 0, 0, -1), NONE);
                same(state, "shown of 0, 0, " + number, s -> s.shown(0, 0, number, -1), NONE);
                same(state, "heading " + number, s -> s.heading(number, 0), NONE);
                same(state, "heading 0 of what " + number, s -> s.heading(0, number), NONE);
                same(state, "find of how " + number, s -> s.find(0, '*', number), NONE);
            }
            for (int tag : NO_TAGS) {
                same(state, "", "list of " + tag, s -> s.list(tag, '*'), NONE, "heading(");
                if (tag != 0) {
                    same(state, "find of " + tag, s -> s.find(tag, '*', 1), NONE);
                }
            }
        }
    }

    private static void whatIsSaid() {
        RecordShelf shelf = State.SMALL.shelf();
        CHECK.due("a heading before", shelf.heading(0, 2), 1);
        CHECK.due("a place before", shelf.place(), 3);
        CHECK.due("a refused list()", shelf.list(0, '*'), NONE);
        CHECK.due("nothing is listed then", shelf.heading(0, 0), NONE);
        CHECK.due("the place stays", shelf.place(), 3);
        CHECK.due("a list again", shelf.list(245, '*'), 3);
        shelf.cut(0);
        CHECK.due("a refused read()", shelf.read(), RecordShelf.LEADER);
        CHECK.due("its place", shelf.place(), 0);
        CHECK.due("the list stays", shelf.heading(2, 0), 0);
    }

    public static void main(String[] args) {
        CHECK.says("A call that is refused (it answers below 0, or false) changes nothing but what is said.");
        feeds();
        letters();
        reads();
        builds();
        writes();
        questions();
        whatIsSaid();
        CHECK.end();
    }
}
