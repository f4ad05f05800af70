import java.util.ArrayList;
import java.util.Comparator;
import java.util.List;
import java.util.regex.Matcher;
import java.util.regex.Pattern;

/** The document once more, slowly and in other ways than the class that is tested: strings, lists, patterns. */
final class SlowShelf {
    private static final Pattern SIMPLE = Pattern.compile("[ -~]*\\x1e");
    private static final Pattern DIVIDED = Pattern.compile("[ 0-9]{2}(\\x1f[a-z0-9][ -~]*)+\\x1e");

    private static final class Sub {
        private final char code;
        private String text = "";

        Sub(char code) {
            this.code = code;
        }
    }

    private static final class Line {
        private final int tag;
        private final String indicators;
        private final List<Sub> subs = new ArrayList<>();

        Line(int tag, String indicators) {
            this.tag = tag;
            this.indicators = indicators;
        }

        boolean simple() {
            return tag < 10;
        }

        String written() {
            StringBuilder all = new StringBuilder(indicators);
            for (Sub sub : subs) {
                all.append(simple() ? "" : "\u001f" + sub.code).append(sub.text);
            }
            return all.append('\u001e').toString();
        }
    }

    private static final class Book {
        private String letters = "nam a   ";
        private final List<Line> lines = new ArrayList<>();
    }

    private static final class Fault extends Exception {
        private static final long serialVersionUID = 1;
        private final int kind;
        private final int place;

        Fault(int kind, int place) {
            this.kind = kind;
            this.place = place;
        }
    }

    private final List<Book> books = new ArrayList<>();
    private String text = "";
    private int place = -1;
    private List<int[]> headings = new ArrayList<>();

    String text() {
        return text;
    }

    int feed(long characters, int n) {
        if (n < 1 || n > 8) {
            return -1;
        }
        String more = "";
        for (int i = 0; i < n; i++) {
            more = (char) (characters >>> 8 * i & 255) + more;
        }
        if (!more.matches("[\\x1d-\\x7e]*")) {
            return -1;
        }
        if (text.length() + n > 600) {
            return -2;
        }
        text += more;
        return text.length();
    }

    int cut(int n) {
        text = n < 0 ? "" : n < text.length() ? text.substring(0, n) : text;
        return text.length();
    }

    int letter(int i) {
        return i < 0 || i >= text.length() ? -1 : text.charAt(i);
    }

    int read() {
        place = -1;
        if (books.size() == 6) {
            return -2;
        }
        try {
            books.add(parsed());
            return books.size() - 1;
        } catch (Fault fault) {
            place = fault.place;
            return fault.kind;
        }
    }

    private void need(int from, String pattern, int kind) throws Fault {
        for (int i = 0; i < pattern.length(); i++) {
            int c = letter(from + i);
            char p = pattern.charAt(i);
            boolean right = p == 'P' ? c >= 32 : p == 'D' ? c >= '0' && c <= '9' : c == p;
            if (!right) {
                throw new Fault(kind, Math.min(from + i, text.length()));
            }
        }
    }

    private Book parsed() throws Fault {
        need(0, String.format("%05dPPPPP22DDDDD", text.length()), -3);
        int base = Integer.parseInt(text.substring(12, 17));
        int n = List.of(25, 37, 49, 61, 73, 85, 97, 109, 121).indexOf(base);
        if (n < 0 || base >= text.length()) {
            throw new Fault(-3, 12);
        }
        need(17, "PPP4500", -3);
        Book book = new Book();
        book.letters = text.substring(5, 10) + text.substring(17, 20);
        List<Integer> tags = new ArrayList<>();
        List<Integer> lengths = new ArrayList<>();
        int start = directory(n, tags, lengths);
        if (base + start + 1 != text.length()) {
            throw new Fault(-5, base);
        }
        int at = base;
        for (int i = 0; i < n; i++) {
            book.lines.add(line(tags.get(i), at, text.substring(at, at + lengths.get(i))));
            at += lengths.get(i);
        }
        if (!text.endsWith("\u001d")) {
            throw new Fault(-7, text.length() - 1);
        }
        return book;
    }

    private int directory(int n, List<Integer> tags, List<Integer> lengths) throws Fault {
        int start = 0;
        for (int i = 0; i < n; i++) {
            int at = 24 + 12 * i;
            need(at, "DDD", -4);
            int tag = Integer.parseInt(text.substring(at, at + 3));
            if (tag == 0) {
                throw new Fault(-4, at + 2);
            }
            need(at + 3, "DDDD", -4);
            int length = Integer.parseInt(text.substring(at + 3, at + 7));
            if (length == 0 || length == 1 && tag > 9) {
                throw new Fault(-4, at + 6);
            }
            need(at + 7, String.format("%05d", start), -4);
            tags.add(tag);
            lengths.add(length);
            start += length;
        }
        need(24 + 12 * n, "\u001e", -4);
        return start;
    }

    /** Looks at each beginning of a field, whether a field of that length can still begin so. */
    private static Line line(int tag, int at, String field) throws Fault {
        Pattern whole = tag < 10 ? SIMPLE : DIVIDED;
        for (int n = 1; n <= field.length(); n++) {
            String beginning = field.substring(0, n);
            Matcher matcher = whole.matcher(beginning);
            boolean complete = matcher.matches();
            boolean last = n == field.length();
            if (last ? !complete : complete || !matcher.hitEnd()) {
                throw new Fault(-6, at + n - 1);
            }
            if (!last && overfull(tag, beginning)) {
                throw new Fault(-2, at + n - 1);
            }
        }
        String inner = field.substring(0, field.length() - 1);
        Line line = new Line(tag, tag < 10 ? "" : inner.substring(0, 2));
        String[] parts = inner.split("\u001f", -1);
        for (int i = tag < 10 ? 0 : 1; i < parts.length; i++) {
            Sub sub = new Sub(tag < 10 ? 0 : parts[i].charAt(0));
            sub.text = tag < 10 ? parts[i] : parts[i].substring(1);
            line.subs.add(sub);
        }
        return line;
    }

    private static boolean overfull(int tag, String beginning) {
        if (tag < 10) {
            return beginning.length() > 20;
        }
        String[] parts = beginning.split("\u001f", -1);
        return parts.length > 5 || parts.length > 1 && parts[parts.length - 1].length() > 21;
    }

    int place() {
        return place;
    }

    int fresh() {
        if (books.size() == 6) {
            return -2;
        }
        books.add(new Book());
        return books.size() - 1;
    }

    private Line line(int record, int field) {
        boolean there = record >= 0 && record < books.size() && field >= 0 && field < books.get(record).lines.size();
        return there ? books.get(record).lines.get(field) : null;
    }

    private Sub sub(int record, int field, int number) {
        Line line = line(record, field);
        return line != null && number >= 0 && number < line.subs.size() ? line.subs.get(number) : null;
    }

    int field(int record, int tag, char first, char second) {
        String indicators = "" + first + second;
        boolean simple = tag < 10;
        if (record < 0 || record >= books.size() || tag < 1 || tag > 999 || !simple && !indicators.matches("[ 0-9]{2}")) {
            return -1;
        }
        List<Line> lines = books.get(record).lines;
        if (lines.size() == 8) {
            return -2;
        }
        Line line = new Line(tag, simple ? "" : indicators);
        line.subs.add(new Sub(simple ? 0 : 'a'));
        lines.add(line);
        return lines.size() - 1;
    }

    int subfield(int record, int field, char code) {
        Line line = line(record, field);
        if (line == null || line.simple() || !("" + code).matches("[a-z0-9]")) {
            return -1;
        }
        if (line.subs.size() == 4) {
            return -2;
        }
        line.subs.add(new Sub(code));
        return line.subs.size() - 1;
    }

    int append(int record, int field, int subfield, char c) {
        Sub sub = sub(record, field, subfield);
        if (sub == null || !("" + c).matches("[ -~]")) {
            return -1;
        }
        if (sub.text.length() == 20) {
            return -2;
        }
        sub.text += c;
        return sub.text.length();
    }

    boolean drop(int record, int field) {
        return line(record, field) != null && books.get(record).lines.remove(field) != null;
    }

    int write(int record) {
        if (record < 0 || record >= books.size()) {
            return -1;
        }
        Book book = books.get(record);
        String directory = "";
        String bodies = "";
        for (Line line : book.lines) {
            String body = line.written();
            directory += String.format("%03d%04d%05d", line.tag, body.length(), bodies.length());
            bodies += body;
        }
        String whole = Texts.framed(book.letters, directory, bodies);
        if (whole.length() > 600) {
            return -2;
        }
        text = whole;
        return text.length();
    }

    int many(int record, int field) {
        if (field < 0) {
            return record >= 0 && record < books.size() ? books.get(record).lines.size() : -1;
        }
        Line line = line(record, field);
        return line == null ? -1 : line.subs.size();
    }

    int mark(int record, int field, int what) {
        Line line = line(record, field);
        if (line == null || what < 0 || what > 2) {
            return -1;
        }
        return what == 0 ? line.tag : line.simple() ? 0 : line.indicators.charAt(what - 1);
    }

    int shown(int record, int field, int subfield, int i) {
        Sub sub = sub(record, field, subfield);
        if (sub == null || i < -1 || i >= sub.text.length()) {
            return -1;
        }
        return i == -1 ? sub.code : sub.text.charAt(i);
    }

    private static String key(String text) {
        return text.toLowerCase(java.util.Locale.ROOT).replaceAll("[^a-z0-9]+", " ").trim();
    }

    private static boolean hasCode(Sub sub, char code) {
        return code == '*' || sub.code == code;
    }

    int list(int tag, char code) {
        headings = new ArrayList<>();
        if (tag < 1 || tag > 999) {
            return -1;
        }
        for (int record = 0; record < books.size(); record++) {
            for (int field = 0; field < books.get(record).lines.size(); field++) {
                Line line = line(record, field);
                for (int i = 0; line.tag == tag && i < line.subs.size(); i++) {
                    if (hasCode(line.subs.get(i), code)) {
                        headings.add(new int[] {record, field, i});
                    }
                }
            }
        }
        headings.sort(Comparator.comparing(h -> key(sub(h[0], h[1], h[2]).text)));
        return headings.size();
    }

    int heading(int k, int what) {
        return k < 0 || k >= headings.size() || what < 0 || what > 2 ? -1 : headings.get(k)[what];
    }

    int find(int tag, char code, int how) {
        if (tag < 0 || tag > 999 || how < 0 || how > 2) {
            return -1;
        }
        int sum = 0;
        for (int record = 0; record < books.size(); record++) {
            boolean found = false;
            for (Line line : books.get(record).lines) {
                for (Sub sub : line.subs) {
                    found |= (tag == 0 || line.tag == tag) && hasCode(sub, code) && fits(key(sub.text), key(text), how);
                }
            }
            sum += found ? 1 << record : 0;
        }
        return sum;
    }

    private static boolean fits(String key, String wanted, int how) {
        if (how == 2) {
            return wanted.isEmpty() ? key.isEmpty() : (" " + key + " ").contains(" " + wanted + " ");
        }
        return how == 0 ? key.equals(wanted) : key.startsWith(wanted);
    }
}
