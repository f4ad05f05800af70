import java.util.Random;

/** Long runs of calls, made from fixed seeds, each answered by the class and by the slow shelf: all promises. */
public final class ModelTest {
    private static final int RUNS = 3000;
    /** An object answers as promised for 512 calls; a step that began below this bound ends below that one. */
    private static final int CALLS = 500;
    private static final String WORDS = "aAbB9 -the whale";
    private static final Check CHECK = new Check("ModelTest");

    private final Random random;
    private final String name;
    private final RecordShelf shelf = new RecordShelf();
    private final SlowShelf slow = new SlowShelf();
    private int calls;

    private ModelTest(int seed) {
        random = new Random(seed);
        name = "seed " + seed + ": ";
    }

    private void due(String call, long got, long want) {
        calls++;
        CHECK.due(name + "call " + calls + ", " + call, got, want);
    }

    private int below(int n) {
        return random.nextInt(n);
    }

    /** Mostly a number below n; now and then one that is too great or too small. */
    private int number(int n) {
        switch (below(25)) {
            case 0:
                return -1;
            case 1:
                return n;
            case 2:
                return below(3) == 0 ? random.nextInt() : below(10);
            default:
                return below(n);
        }
    }

    private int tag() {
        int[] tags = {1, 5, 9, 10, 245, 245, 245, 500, 999, 245, 10, 1};
        return below(20) == 0 ? below(1003) - 1 : tags[below(tags.length)];
    }

    private char code() {
        return below(12) == 0 ? (char) below(300) : "abc9*\0".charAt(below(6));
    }

    private char word() {
        return below(30) == 0 ? (char) below(200) : WORDS.charAt(below(WORDS.length()));
    }

    private void feed(String text) {
        for (int at = 0; at < text.length() && calls < CALLS; at += 8) {
            String part = text.substring(at, Math.min(at + 8, text.length()));
            long characters = Texts.packed(part);
            due("feed of " + Texts.visible(part), shelf.feed(characters, part.length()), slow.feed(characters, part.length()));
        }
    }

    private void cut(int n) {
        due("cut(" + n + ")", shelf.cut(n), slow.cut(n));
    }

    private void read() {
        due("read() of " + Texts.visible(slow.text()), shelf.read(), slow.read());
        due("place()", shelf.place(), slow.place());
    }

    private String randomField() {
        StringBuilder field = new StringBuilder(String.format("%03d", Math.max(1, Math.min(999, tag()))));
        boolean simple = field.toString().compareTo("010") < 0;
        int subs = simple ? 1 : 1 + below(below(6) == 0 ? 5 : 3);
        field.append(simple ? "" : " 1");
        for (int i = 0; i < subs; i++) {
            field.append(simple ? "" : "$" + "abc9".charAt(below(4)));
            int letters = below(8) == 0 ? 18 + below(4) : below(6);
            for (int j = 0; j < letters; j++) {
                field.append(WORDS.charAt(below(WORDS.length())));
            }
        }
        return field.toString();
    }

    private void readRandomRecord() {
        String[] fields = new String[below(5)];
        for (int i = 0; i < fields.length; i++) {
            fields[i] = randomField();
        }
        String text = Texts.record("xyz 123~", fields);
        int changes = below(4) == 0 ? 0 : 1 + below(2);
        for (int i = 0; i < changes; i++) {
            text = changed(text);
        }
        cut(0);
        feed(text);
        read();
    }

    private String changed(String text) {
        int from = below(3) == 0 ? 0 : Math.min(text.length() - 1, 24 + 12 * below(6));
        int at = from + below(text.length() - from);
        char c = below(2) == 0 ? (char) (29 + below(3)) : below(2) == 0 ? (char) ('0' + below(10)) : (char) (32 + below(95));
        String other = Texts.with(text, at, c);
        // Half of the texts get one character less or more, told in the leader, so that later faults are met.
        if (below(2) == 0) {
            other = below(2) == 0 ? text.substring(0, at) + text.substring(at + 1) : text.substring(0, at) + c + text.substring(at);
            other = other.length() < 5 || below(4) == 0 ? other : String.format("%05d", other.length()) + other.substring(5);
        }
        return other;
    }

    /** Writes a record, changes a character, reads it and looks at the place. */
    private void readChangedRecord() {
        int record = number(6);
        due("write(" + record + ")", shelf.write(record), slow.write(record));
        if (!slow.text().isEmpty() && below(2) == 0) {
            int keep = below(slow.text().length());
            String rest = slow.text().substring(keep, Math.min(slow.text().length(), keep + 40));
            cut(keep);
            feed(below(2) == 0 ? rest : (char) (29 + below(3)) + rest.substring(1));
        }
        read();
    }

    private void build() {
        int record = number(6);
        int field = number(4);
        int sub = number(3);
        int tag = tag();
        char c = word();
        char code = code();
        char first = below(15) == 0 ? c : ' ';
        char second = below(15) == 0 ? c : '7';
        switch (below(12)) {
            case 0:
                due("fresh()", shelf.fresh(), slow.fresh());
                break;
            case 1:
            case 2:
            case 3:
                due("field(" + record + ", " + tag + ")", shelf.field(record, tag, first, second),
                    slow.field(record, tag, first, second));
                break;
            case 4:
            case 5:
                due("subfield(" + record + ", " + field + ")", shelf.subfield(record, field, code),
                    slow.subfield(record, field, code));
                break;
            case 6:
                due("drop(" + record + ", " + field + ")", shelf.drop(record, field) ? 1 : 0, slow.drop(record, field) ? 1 : 0);
                break;
            default:
                int times = below(10) == 0 ? 22 : 1 + below(4);
                for (int i = 0; i < times && calls < CALLS; i++) {
                    char next = i == 0 ? c : word();
                    due("append(" + record + ", " + field + ", " + sub + ", " + (int) next + ")",
                        shelf.append(record, field, sub, next), slow.append(record, field, sub, next));
                }
        }
    }

    private void ask() {
        int record = number(6);
        int field = number(8);
        int sub = number(4);
        int i = number(20);
        int what = number(3);
        switch (below(5)) {
            case 0:
                due("many(" + record + ", " + field + ")", shelf.many(record, field), slow.many(record, field));
                break;
            case 1:
                due("mark(" + record + ", " + field + ", " + what + ")", shelf.mark(record, field, what),
                    slow.mark(record, field, what));
                break;
            case 2:
                due("letter(" + 7 * i + ")", shelf.letter(7 * i), slow.letter(7 * i));
                break;
            case 3:
                due("heading(" + i + ", " + what + ")", shelf.heading(i, what), slow.heading(i, what));
                break;
            default:
                due("shown(" + record + ", " + field + ", " + sub + ", " + i + ")", shelf.shown(record, field, sub, i),
                    slow.shown(record, field, sub, i));
        }
    }

    private void listAll() {
        int tag = tag();
        char code = code();
        int count = slow.list(tag, code);
        due("list(" + tag + ", " + (int) code + ")", shelf.list(tag, code), count);
        for (int k = 0; k < count && calls < CALLS; k++) {
            int what = below(3);
            due("heading(" + k + ", " + what + ")", shelf.heading(k, what), slow.heading(k, what));
        }
    }

    private void search() {
        cut(below(8) == 0 ? below(20) : 0);
        StringBuilder text = new StringBuilder();
        int letters = below(6);
        for (int i = 0; i < letters; i++) {
            text.append(WORDS.charAt(below(WORDS.length())));
        }
        feed(below(4) == 0 ? "Whale" : text.toString());
        for (int how = 0; how < 3; how++) {
            int tag = below(3) == 0 ? 0 : tag();
            char code = code();
            due("find(" + tag + ", " + (int) code + ", " + how + ")", shelf.find(tag, code, how), slow.find(tag, code, how));
        }
    }

    private void run() {
        boolean empty = below(4) == 0;
        if (!empty) {
            due("fresh()", shelf.fresh(), slow.fresh());
        }
        while (calls < CALLS) {
            int kind = below(100);
            if (kind < 8) {
                readRandomRecord();
            } else if (kind < 11) {
                readChangedRecord();
            } else if (kind < 50) {
                build();
            } else if (kind < 90) {
                ask();
            } else if (kind < 95) {
                listAll();
            } else {
                search();
            }
        }
    }

    public static void main(String[] args) {
        for (int seed = 0; seed < RUNS; seed++) {
            new ModelTest(seed).run();
        }
        CHECK.end();
    }
}
