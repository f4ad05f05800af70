/**
 * Makes the texts of records for the tests, apart from the class that is tested. An object answers as
 * promised for 512 calls only: get() and shown() take a call for each character, set() one for eight.
 */
final class Texts {
    static final char END = 29;
    static final char FIELD = 30;
    static final char SUB = 31;

    private Texts() {
    }

    /** The content of a field, with $ for 31, and 30 behind it. */
    static String body(String content) {
        return content.replace('$', SUB) + FIELD;
    }

    /** A record as a text; each field is its tag of three digits and its content with $ for 31. */
    static String record(String letters, String... fields) {
        StringBuilder directory = new StringBuilder();
        StringBuilder bodies = new StringBuilder();
        for (String field : fields) {
            String body = body(field.substring(3));
            directory.append(field, 0, 3).append(String.format("%04d%05d", body.length(), bodies.length()));
            bodies.append(body);
        }
        return framed(letters, directory.toString(), bodies.toString());
    }

    /** A record with any directory and any fields, its own length and B being right. */
    static String framed(String letters, String directory, String bodies) {
        int base = 25 + directory.length();
        int length = base + bodies.length() + 1;
        return String.format("%05d", length) + letters.substring(0, 5) + "22" + String.format("%05d", base)
            + letters.substring(5) + "4500" + directory + FIELD + bodies + END;
    }

    static String with(String text, int at, char c) {
        return text.substring(0, at) + c + text.substring(at + 1);
    }

    static void feed(RecordShelf shelf, String text) {
        for (int at = 0; at < text.length(); at += 8) {
            String part = text.substring(at, Math.min(at + 8, text.length()));
            shelf.feed(packed(part), part.length());
        }
    }

    static long packed(String part) {
        long characters = 0;
        for (int i = 0; i < part.length(); i++) {
            characters = characters << 8 | part.charAt(i);
        }
        return characters;
    }

    static void set(RecordShelf shelf, String text) {
        shelf.cut(0);
        feed(shelf, text);
    }

    static String get(RecordShelf shelf) {
        StringBuilder text = new StringBuilder();
        int code = shelf.letter(0);
        while (code != RecordShelf.NONE && text.length() < 600) {
            text.append((char) code);
            code = shelf.letter(text.length());
        }
        return text.toString();
    }

    static void append(RecordShelf shelf, int record, int field, int subfield, String text) {
        for (int i = 0; i < text.length(); i++) {
            shelf.append(record, field, subfield, text.charAt(i));
        }
    }

    static String shown(RecordShelf shelf, int record, int field, int subfield) {
        StringBuilder text = new StringBuilder();
        int code = shelf.shown(record, field, subfield, 0);
        while (code != RecordShelf.NONE && text.length() < 600) {
            text.append((char) code);
            code = shelf.shown(record, field, subfield, text.length());
        }
        return text.toString();
    }

    static String visible(String text) {
        return "'" + text.replace(END, '|').replace(FIELD, '^').replace(SUB, '$') + "'";
    }
}
