import java.util.ArrayList;
import java.util.List;

/**
 * What a shelf answers, call by call: first all that it can be asked, then what it answers when it is used
 * further. Two diaries of the same calls are alike when the shelves cannot be told apart.
 */
final class Diary {
    private final RecordShelf shelf;
    private final List<String> lines = new ArrayList<>();

    Diary(RecordShelf shelf) {
        this.shelf = shelf;
        ask();
        goOn();
        ask();
    }

    private int note(String call, int answer) {
        lines.add(call + " = " + answer);
        return answer;
    }

    /** The first line that differs from another diary's and does not begin with one of the excepted beginnings. */
    String firstDifference(Diary other, String excepted) {
        for (int i = 0; i < Math.max(lines.size(), other.lines.size()); i++) {
            String mine = i < lines.size() ? lines.get(i) : "nothing";
            String its = i < other.lines.size() ? other.lines.get(i) : "nothing";
            boolean free = !excepted.isEmpty() && mine.startsWith(excepted) && its.startsWith(excepted);
            if (!mine.equals(its) && !free) {
                return mine + ", but " + its;
            }
        }
        return "";
    }

    private void ask() {
        note("place()", shelf.place());
        for (int k = 0; k < 5; k++) {
            note("heading(" + k + ")", 100 * shelf.heading(k, 0) + 10 * shelf.heading(k, 1) + shelf.heading(k, 2));
        }
        int length = note("cut(600)", shelf.cut(600));
        for (int i = 0; i < 12; i++) {
            note("letter(" + i + ")", shelf.letter(i));
            note("letter(length - " + i + ")", shelf.letter(length - i));
        }
        for (int record = 0; record < 7; record++) {
            askRecord(record);
        }
    }

    private void askRecord(int record) {
        int fields = note("many(" + record + ", -1)", shelf.many(record, -1));
        for (int field = 0; field < fields; field++) {
            String place = "(" + record + ", " + field + ")";
            note("tag" + place, shelf.mark(record, field, 0));
            int subfields = note("many" + place, shelf.many(record, field));
            note("indicators" + place, 1000 * shelf.mark(record, field, 1) + shelf.mark(record, field, 2));
            for (int subfield = 0; subfield < subfields; subfield++) {
                note("code" + place + subfield, shelf.shown(record, field, subfield, -1));
                int i = 0;
                while (note("text" + place + subfield + " at " + i, shelf.shown(record, field, subfield, i)) >= 0) {
                    i++;
                }
            }
        }
    }

    /** Uses what a refused call may have left behind: free records, fields, subfields, and the text. */
    private void goOn() {
        note("find", shelf.find(0, '*', 1));
        note("write(0)", shelf.write(0));
        note("feed", shelf.feed('x', 1));
        int record = note("fresh()", shelf.fresh());
        int field = note("field", shelf.field(Math.max(record, 0), 245, '1', '2'));
        note("field", shelf.field(Math.max(record, 0), 5, ' ', ' '));
        note("subfield", shelf.subfield(Math.max(record, 0), Math.max(field, 0), 'c'));
        note("append", shelf.append(Math.max(record, 0), Math.max(field, 0), 1, 'k'));
        note("append", shelf.append(0, 0, 0, 'm'));
        note("write", shelf.write(Math.max(record, 0)));
        note("read()", shelf.read());
        note("list", shelf.list(245, '*'));
        note("drop", shelf.drop(0, 0) ? 1 : 0);
    }
}
