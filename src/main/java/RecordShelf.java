/**
 * A shelf of records in the form of libraries: a leader, a directory, fields with indicators and
 * subfields. Every row is made in the constructor and used again, so no later call makes an object.
 */
public final class RecordShelf {
    public static final int NONE = -1;
    public static final int ROOM = -2;
    public static final int LEADER = -3;
    public static final int DIRECTORY = -4;
    public static final int TOTAL = -5;
    public static final int FIELD = -6;
    public static final int END = -7;

    private static final int MOST_SIGNS = 600;
    private static final int MOST_CARDS = 6;
    private static final int MOST_FIELDS = 8;
    private static final int MOST_SUBFIELDS = 4;
    private static final int MOST_LETTERS = 20;
    private static final int MOST_HEADINGS = MOST_CARDS * MOST_FIELDS * MOST_SUBFIELDS;
    private static final int MOST_TAG = 999;
    private static final int FIRST_DIVIDED_TAG = 10;

    private static final char RECORD_END = 29;
    private static final char FIELD_END = 30;
    private static final char SUBFIELD_START = 31;
    private static final char LAST_SIGN = 126;
    private static final char SIMPLE_CODE = 0;
    private static final char ANY_CODE = '*';

    private static final int OWN_LETTERS = 8;
    private static final int FRONT_LETTERS = 5;
    private static final String FRESH_LETTERS = "nam a   ";
    private static final int FRONT_LETTERS_PLACE = 5;
    private static final int VERSION_PLACE = 10;
    private static final int VERSION = 22;
    private static final int BASE_PLACE = 12;
    private static final int BACK_LETTERS_PLACE = 17;
    private static final int MAP_PLACE = 20;
    private static final int MAP = 4500;
    private static final int DIRECTORY_PLACE = 24;
    private static final int ENTRY_SIZE = 12;
    private static final int LEAST_BASE = 25;

    private static final int IS = 0;
    private static final int BEGINS = 1;
    private static final int HAS = 2;

    private final Reader reader = new Reader();
    private final Text text = reader.text;
    private final Card[] cards = new Card[MOST_CARDS];
    private final Headings headings = new Headings();
    private final Key sought = new Key(MOST_SIGNS);
    private int cardCount;

    public RecordShelf() {
        for (int i = 0; i < MOST_CARDS; i++) {
            cards[i] = new Card();
        }
    }

    public int feed(long characters, int n) {
        if (n < 1 || n > 8) {
            return NONE;
        }
        for (int i = 0; i < n; i++) {
            if (!isSign(byteOf(characters, i))) {
                return NONE;
            }
        }
        if (text.length + n > MOST_SIGNS) {
            return ROOM;
        }
        for (int i = n - 1; i >= 0; i--) {
            text.add((char) byteOf(characters, i));
        }
        return text.length;
    }

    public int cut(int n) {
        text.keep(n);
        return text.length;
    }

    public int letter(int i) {
        return text.codeAt(i);
    }

    public int read() {
        reader.forgetFault();
        if (cardCount >= MOST_CARDS) {
            return ROOM;
        }
        // The next free card is filled; after a fault it just stays free.
        if (!reader.fill(cards[cardCount])) {
            return reader.fault;
        }
        cardCount++;
        return cardCount - 1;
    }

    public int place() {
        return reader.place;
    }

    public int fresh() {
        if (cardCount >= MOST_CARDS) {
            return ROOM;
        }
        cards[cardCount].begin();
        cardCount++;
        return cardCount - 1;
    }

    public int field(int record, int tag, char first, char second) {
        if (!hasCard(record) || tag < 1 || tag > MOST_TAG) {
            return NONE;
        }
        boolean simple = tag < FIRST_DIVIDED_TAG;
        if (!simple && !(isIndicator(first) && isIndicator(second))) {
            return NONE;
        }
        Card card = cards[record];
        if (card.isFull()) {
            return ROOM;
        }
        Field added = card.addField(tag);
        if (!simple) {
            added.first = first;
            added.second = second;
        }
        added.addSubfield(simple ? SIMPLE_CODE : 'a');
        return card.count - 1;
    }

    public int subfield(int record, int field, char code) {
        if (!hasField(record, field) || !isCode(code)) {
            return NONE;
        }
        Field owner = cards[record].fields[field];
        if (owner.isSimple()) {
            return NONE;
        }
        if (owner.isFull()) {
            return ROOM;
        }
        owner.addSubfield(code);
        return owner.count - 1;
    }

    public int append(int record, int field, int subfield, char c) {
        if (!hasSubfield(record, field, subfield) || !isPlain(c)) {
            return NONE;
        }
        Subfield owner = cards[record].fields[field].subfields[subfield];
        if (owner.isFull()) {
            return ROOM;
        }
        owner.add(c);
        return owner.length;
    }

    public boolean drop(int record, int field) {
        if (!hasField(record, field)) {
            return false;
        }
        cards[record].takeOut(field);
        return true;
    }

    public int write(int record) {
        if (!hasCard(record)) {
            return NONE;
        }
        if (cards[record].size() > MOST_SIGNS) {
            return ROOM;
        }
        text.keep(0);
        cards[record].putInto(text);
        return text.length;
    }

    public int many(int record, int field) {
        if (field < 0) {
            return hasCard(record) ? cards[record].count : NONE;
        }
        return hasField(record, field) ? cards[record].fields[field].count : NONE;
    }

    public int mark(int record, int field, int what) {
        if (!hasField(record, field)) {
            return NONE;
        }
        Field owner = cards[record].fields[field];
        switch (what) {
            case 0:
                return owner.tag;
            case 1:
                return owner.first;
            case 2:
                return owner.second;
            default:
                return NONE;
        }
    }

    public int shown(int record, int field, int subfield, int i) {
        if (!hasSubfield(record, field, subfield)) {
            return NONE;
        }
        Subfield owner = cards[record].fields[field].subfields[subfield];
        return i == -1 ? owner.code : owner.codeAt(i);
    }

    public int list(int tag, char code) {
        headings.clear();
        if (tag < 1 || tag > MOST_TAG) {
            return NONE;
        }
        for (int record = 0; record < cardCount; record++) {
            for (int field = 0; field < cards[record].count; field++) {
                if (cards[record].fields[field].tag == tag) {
                    headings.addAll(cards, record, field, code);
                }
            }
        }
        return headings.count;
    }

    public int heading(int k, int what) {
        return headings.part(k, what);
    }

    public int find(int tag, char code, int how) {
        if (tag < 0 || tag > MOST_TAG || how < IS || how > HAS) {
            return NONE;
        }
        sought.clear();
        for (int i = 0; i < text.length; i++) {
            sought.take(text.signs[i]);
        }
        int sum = 0;
        for (int record = 0; record < cardCount; record++) {
            if (cards[record].fits(tag, code, sought, how)) {
                sum += 1 << record;
            }
        }
        return sum;
    }

    private boolean hasCard(int record) {
        return record >= 0 && record < cardCount;
    }

    private boolean hasField(int record, int number) {
        return hasCard(record) && number >= 0 && number < cards[record].count;
    }

    private boolean hasSubfield(int record, int field, int number) {
        return hasField(record, field) && number >= 0 && number < cards[record].fields[field].count;
    }

    private static int byteOf(long characters, int i) {
        return (int) (characters >> (8 * i)) & 255;
    }

    private static boolean isSign(int code) {
        return code >= RECORD_END && code <= LAST_SIGN;
    }

    private static boolean isPlain(int code) {
        return code > SUBFIELD_START && code <= LAST_SIGN;
    }

    private static boolean isDigit(int code) {
        return code >= '0' && code <= '9';
    }

    private static boolean isIndicator(int code) {
        return code == ' ' || isDigit(code);
    }

    private static boolean isCode(int code) {
        return code >= 'a' && code <= 'z' || code >= '0' && code <= '9';
    }

    /** The digit of a number that has so many digits behind it, as a character's code. */
    private static int digitBefore(int behind, int number) {
        int rest = number;
        for (int i = 0; i < behind; i++) {
            rest = rest / 10;
        }
        return '0' + rest % 10;
    }

    /** The text that is fed, read and written. */
    private static final class Text {
        private final char[] signs = new char[MOST_SIGNS];
        private int length;

        int codeAt(int i) {
            return i >= 0 && i < length ? signs[i] : NONE;
        }

        void keep(int n) {
            length = Math.max(0, Math.min(n, length));
        }

        void add(char c) {
            if (length < signs.length) {
                signs[length] = c;
                length++;
            }
        }

        void addNumber(int number, int digits) {
            for (int behind = digits - 1; behind >= 0; behind--) {
                add((char) digitBefore(behind, number));
            }
        }
    }

    /** The key of a text, made from the text's characters one by one. */
    private static final class Key {
        private final char[] signs;
        private int length;
        private boolean gap;

        Key(int room) {
            signs = new char[room];
        }

        void clear() {
            length = 0;
            gap = false;
        }

        void take(char c) {
            boolean capital = c >= 'A' && c <= 'Z';
            if (!capital && !isCode(c)) {
                gap = true;
                return;
            }
            // A gap becomes a space only here, so that none is left at the beginning or the end.
            if (gap && length > 0) {
                put(' ');
            }
            gap = false;
            put(capital ? (char) (c - 'A' + 'a') : c);
        }

        private void put(char c) {
            if (length < signs.length) {
                signs[length] = c;
                length++;
            }
        }

        /** Below 0, 0 or above 0 as this key comes before another one, is it, or comes behind it. */
        int against(Key other) {
            int both = Math.min(length, other.length);
            for (int i = 0; i < both; i++) {
                if (signs[i] != other.signs[i]) {
                    return signs[i] - other.signs[i];
                }
            }
            return length - other.length;
        }

        boolean fits(Key wanted, int how) {
            switch (how) {
                case IS:
                    return against(wanted) == 0;
                case BEGINS:
                    return hasAt(0, wanted);
                default:
                    return hasWords(wanted);
            }
        }

        private boolean hasWords(Key wanted) {
            if (wanted.length == 0) {
                return length == 0;
            }
            for (int start = 0; start + wanted.length <= length; start++) {
                boolean whole = isEdge(start - 1) && isEdge(start + wanted.length);
                if (whole && hasAt(start, wanted)) {
                    return true;
                }
            }
            return false;
        }

        private boolean isEdge(int i) {
            return i < 0 || i >= length || signs[i] == ' ';
        }

        private boolean hasAt(int start, Key wanted) {
            if (start + wanted.length > length) {
                return false;
            }
            for (int i = 0; i < wanted.length; i++) {
                if (signs[start + i] != wanted.signs[i]) {
                    return false;
                }
            }
            return true;
        }
    }

    /** A subfield, which keeps its key up to date as it grows. */
    private static final class Subfield {
        private final char[] letters = new char[MOST_LETTERS];
        private final Key key = new Key(MOST_LETTERS);
        private int length;
        private char code;

        void begin(char newCode) {
            code = newCode;
            length = 0;
            key.clear();
        }

        boolean isFull() {
            return length >= letters.length;
        }

        void add(char c) {
            if (!isFull()) {
                letters[length] = c;
                length++;
                key.take(c);
            }
        }

        int codeAt(int i) {
            return i >= 0 && i < length ? letters[i] : NONE;
        }

        boolean hasCode(char wanted) {
            return wanted == ANY_CODE || wanted == code;
        }

        void putLetters(Text text) {
            for (int i = 0; i < length; i++) {
                text.add(letters[i]);
            }
        }
    }

    private static final class Field {
        private final Subfield[] subfields = new Subfield[MOST_SUBFIELDS];
        private int count;
        private int tag;
        private char first;
        private char second;

        Field() {
            for (int i = 0; i < MOST_SUBFIELDS; i++) {
                subfields[i] = new Subfield();
            }
        }

        void begin(int newTag) {
            tag = newTag;
            first = 0;
            second = 0;
            count = 0;
        }

        boolean isSimple() {
            return tag < FIRST_DIVIDED_TAG;
        }

        boolean isFull() {
            return count >= MOST_SUBFIELDS;
        }

        void addSubfield(char code) {
            if (!isFull()) {
                subfields[count].begin(code);
                count++;
            }
        }

        boolean fits(char code, Key wanted, int how) {
            for (int i = 0; i < count; i++) {
                if (subfields[i].hasCode(code) && subfields[i].key.fits(wanted, how)) {
                    return true;
                }
            }
            return false;
        }

        int size() {
            if (isSimple()) {
                return subfields[0].length + 1;
            }
            int sum = 3;
            for (int i = 0; i < count; i++) {
                sum += 2 + subfields[i].length;
            }
            return sum;
        }

        void putInto(Text text) {
            if (isSimple()) {
                subfields[0].putLetters(text);
            } else {
                putDivided(text);
            }
            text.add(FIELD_END);
        }

        private void putDivided(Text text) {
            text.add(first);
            text.add(second);
            for (int i = 0; i < count; i++) {
                text.add(SUBFIELD_START);
                text.add(subfields[i].code);
                subfields[i].putLetters(text);
            }
        }
    }

    /** A record; it bears this name because Record is a name of Java's own. */
    private static final class Card {
        private final char[] letters = new char[OWN_LETTERS];
        private final Field[] fields = new Field[MOST_FIELDS];
        private int count;

        Card() {
            for (int i = 0; i < MOST_FIELDS; i++) {
                fields[i] = new Field();
            }
        }

        void begin() {
            count = 0;
            for (int i = 0; i < OWN_LETTERS; i++) {
                letters[i] = FRESH_LETTERS.charAt(i);
            }
        }

        boolean isFull() {
            return count >= MOST_FIELDS;
        }

        /** A new field, still without subfields; the caller has seen that there is room. */
        Field addField(int tag) {
            Field added = fields[count];
            added.begin(tag);
            count++;
            return added;
        }

        void takeOut(int number) {
            Field out = fields[number];
            for (int i = number; i < count - 1; i++) {
                fields[i] = fields[i + 1];
            }
            // The row goes behind the others, to be used again.
            count--;
            fields[count] = out;
        }

        boolean fits(int tag, char code, Key wanted, int how) {
            for (int i = 0; i < count; i++) {
                boolean tagged = tag == 0 || fields[i].tag == tag;
                if (tagged && fields[i].fits(code, wanted, how)) {
                    return true;
                }
            }
            return false;
        }

        private int base() {
            return LEAST_BASE + ENTRY_SIZE * count;
        }

        int size() {
            int sum = base() + 1;
            for (int i = 0; i < count; i++) {
                sum += fields[i].size();
            }
            return sum;
        }

        void putInto(Text text) {
            putLeader(text);
            putDirectory(text);
            for (int i = 0; i < count; i++) {
                fields[i].putInto(text);
            }
            text.add(RECORD_END);
        }

        private void putLeader(Text text) {
            text.addNumber(size(), 5);
            putLetters(text, 0, FRONT_LETTERS);
            text.addNumber(VERSION, 2);
            text.addNumber(base(), 5);
            putLetters(text, FRONT_LETTERS, OWN_LETTERS);
            text.addNumber(MAP, 4);
        }

        private void putLetters(Text text, int from, int to) {
            for (int i = from; i < to; i++) {
                text.add(letters[i]);
            }
        }

        private void putDirectory(Text text) {
            int start = 0;
            for (int i = 0; i < count; i++) {
                text.addNumber(fields[i].tag, 3);
                text.addNumber(fields[i].size(), 4);
                text.addNumber(start, 5);
                start += fields[i].size();
            }
            text.add(FIELD_END);
        }
    }

    /** Reads the text into a card, from its first character on, up to the first fault. */
    private static final class Reader {
        private final Text text = new Text();
        private final int[] sizes = new int[MOST_FIELDS];
        private int base;
        private int entries;
        private int fieldsSize;
        private int number;
        private int fault = NONE;
        private int place = NONE;

        void forgetFault() {
            fault = NONE;
            place = NONE;
        }

        boolean fill(Card card) {
            card.begin();
            return takeLeader(card) && takeDirectory(card) && checkTotal() && takeFields(card) && checkEnd();
        }

        /** Answers false, so that a caller can meet a fault and stop in one line. */
        private boolean meet(int newFault, int newPlace) {
            fault = newFault;
            place = newPlace;
            return false;
        }

        private boolean takeLeader(Card card) {
            return expectNumber(text.length, 0, 5, LEADER)
                && takeLetters(card, 0, FRONT_LETTERS, FRONT_LETTERS_PLACE)
                && expectNumber(VERSION, VERSION_PLACE, 2, LEADER)
                && takeBase()
                && takeLetters(card, FRONT_LETTERS, OWN_LETTERS, BACK_LETTERS_PLACE)
                && expectNumber(MAP, MAP_PLACE, 4, LEADER);
        }

        private boolean expectNumber(int due, int from, int digits, int kind) {
            for (int i = 0; i < digits; i++) {
                if (text.codeAt(from + i) != digitBefore(digits - 1 - i, due)) {
                    return meet(kind, from + i);
                }
            }
            return true;
        }

        private boolean takeNumber(int from, int digits, int kind) {
            number = 0;
            for (int i = from; i < from + digits; i++) {
                int code = text.codeAt(i);
                if (!isDigit(code)) {
                    return meet(kind, i);
                }
                number = 10 * number + code - '0';
            }
            return true;
        }

        private boolean takeLetters(Card card, int from, int to, int at) {
            for (int i = from; i < to; i++) {
                int code = text.codeAt(at + i - from);
                if (!isPlain(code)) {
                    return meet(LEADER, at + i - from);
                }
                card.letters[i] = (char) code;
            }
            return true;
        }

        private boolean takeBase() {
            if (!takeNumber(BASE_PLACE, 5, LEADER)) {
                return false;
            }
            base = number;
            entries = (base - LEAST_BASE) / ENTRY_SIZE;
            boolean right = base == LEAST_BASE + ENTRY_SIZE * entries
                && entries >= 0 && entries <= MOST_FIELDS && base < text.length;
            return right || meet(LEADER, BASE_PLACE);
        }

        private boolean takeDirectory(Card card) {
            fieldsSize = 0;
            for (int i = 0; i < entries; i++) {
                if (!takeEntry(card, i)) {
                    return false;
                }
            }
            return text.codeAt(base - 1) == FIELD_END || meet(DIRECTORY, base - 1);
        }

        private boolean takeEntry(Card card, int i) {
            int at = DIRECTORY_PLACE + ENTRY_SIZE * i;
            if (!takeNumber(at, 3, DIRECTORY)) {
                return false;
            }
            if (number == 0) {
                return meet(DIRECTORY, at + 2);
            }
            Field field = card.addField(number);
            if (!takeNumber(at + 3, 4, DIRECTORY)) {
                return false;
            }
            if (number < (field.isSimple() ? 1 : 2)) {
                return meet(DIRECTORY, at + 6);
            }
            sizes[i] = number;
            int start = fieldsSize;
            fieldsSize += number;
            return expectNumber(start, at + 7, 5, DIRECTORY);
        }

        private boolean checkTotal() {
            return base + fieldsSize + 1 == text.length || meet(TOTAL, base);
        }

        private boolean takeFields(Card card) {
            int at = base;
            for (int i = 0; i < card.count; i++) {
                Field field = card.fields[i];
                int last = at + sizes[i] - 1;
                boolean taken = field.isSimple() ? takeSimple(field, at, last) : takeDivided(field, at, last);
                if (!taken) {
                    return false;
                }
                at = last + 1;
            }
            return true;
        }

        private boolean takeSimple(Field field, int at, int last) {
            field.addSubfield(SIMPLE_CODE);
            for (int i = at; i < last; i++) {
                if (!takeLetter(field.subfields[0], i)) {
                    return false;
                }
            }
            return text.codeAt(last) == FIELD_END || meet(FIELD, last);
        }

        private boolean takeLetter(Subfield subfield, int i) {
            int code = text.codeAt(i);
            if (!isPlain(code)) {
                return meet(FIELD, i);
            }
            if (subfield.isFull()) {
                return meet(ROOM, i);
            }
            subfield.add((char) code);
            return true;
        }

        private boolean takeDivided(Field field, int at, int last) {
            if (!takeIndicators(field, at)) {
                return false;
            }
            boolean codeIsDue = false;
            for (int i = at + 2; i < last; i++) {
                if (codeIsDue) {
                    if (!takeCode(field, i)) {
                        return false;
                    }
                    codeIsDue = false;
                } else if (text.codeAt(i) == SUBFIELD_START) {
                    if (field.isFull()) {
                        return meet(ROOM, i);
                    }
                    codeIsDue = true;
                } else if (field.count == 0) {
                    return meet(FIELD, i);
                } else if (!takeLetter(field.subfields[field.count - 1], i)) {
                    return false;
                }
            }
            boolean mayEnd = field.count > 0 && !codeIsDue;
            return mayEnd && text.codeAt(last) == FIELD_END || meet(FIELD, last);
        }

        /** Such a field has at least two characters; if it has no more, the missing 30 is met later. */
        private boolean takeIndicators(Field field, int at) {
            for (int i = at; i < at + 2; i++) {
                if (!isIndicator(text.codeAt(i))) {
                    return meet(FIELD, i);
                }
            }
            field.first = (char) text.codeAt(at);
            field.second = (char) text.codeAt(at + 1);
            return true;
        }

        private boolean takeCode(Field field, int i) {
            int code = text.codeAt(i);
            if (!isCode(code)) {
                return meet(FIELD, i);
            }
            field.addSubfield((char) code);
            return true;
        }

        private boolean checkEnd() {
            return text.codeAt(text.length - 1) == RECORD_END || meet(END, text.length - 1);
        }
    }

    /** The latest list, as places: a number for each record, field and subfield. */
    private static final class Headings {
        private final int[] places = new int[MOST_HEADINGS];
        private int count;

        void clear() {
            count = 0;
        }

        void addAll(Card[] cards, int record, int field, char code) {
            Field owner = cards[record].fields[field];
            for (int i = 0; i < owner.count; i++) {
                if (owner.subfields[i].hasCode(code)) {
                    add(cards, (record * MOST_FIELDS + field) * MOST_SUBFIELDS + i);
                }
            }
        }

        private void add(Card[] cards, int place) {
            if (count < places.length) {
                int at = rank(cards, keyOf(cards, place));
                System.arraycopy(places, at, places, at + 1, count - at);
                places[at] = place;
                count++;
            }
        }

        /** A new heading goes behind its equals: they come by record, field and subfield. */
        private int rank(Card[] cards, Key key) {
            int before = 0;
            // Halving steps from 128 on reach any rank up to 255, and there are at most 192 headings.
            for (int step = 128; step > 0; step = step / 2) {
                int next = before + step;
                if (next <= count && keyOf(cards, places[next - 1]).against(key) <= 0) {
                    before = next;
                }
            }
            return before;
        }

        private static Key keyOf(Card[] cards, int place) {
            return cards[recordOf(place)].fields[fieldOf(place)].subfields[subfieldOf(place)].key;
        }

        int part(int k, int what) {
            if (k < 0 || k >= count) {
                return NONE;
            }
            switch (what) {
                case 0:
                    return recordOf(places[k]);
                case 1:
                    return fieldOf(places[k]);
                case 2:
                    return subfieldOf(places[k]);
                default:
                    return NONE;
            }
        }

        private static int recordOf(int place) {
            return place / (MOST_FIELDS * MOST_SUBFIELDS);
        }

        private static int fieldOf(int place) {
            return place / MOST_SUBFIELDS % MOST_FIELDS;
        }

        private static int subfieldOf(int place) {
            return place % MOST_SUBFIELDS;
        }
    }
}
