import java.util.Random;

/** How long an object answers: its 512th call is still promised, and no call ever throws, not even a later one. */
public final class CallsTest {
    private static final int[] NUMBERS = {Integer.MIN_VALUE, -1000, -1, 0, 1, 2, 3, 5, 6, 7, 8, 10, 19, 20, 245, 599, 600, 999,
        1000, Integer.MAX_VALUE};
    private static final Check CHECK = new Check("CallsTest");

    private static void lastPromisedCall() {
        CHECK.says("An object is used for at most 512 calls after it has been made");
        RecordShelf shelf = new RecordShelf();
        for (int call = 1; call <= 500; call++) {
            shelf.feed('x', 1);
        }
        for (int call = 501; call <= 511; call++) {
            CHECK.due("feed() as call " + call, shelf.feed('y', 1), call);
        }
        CHECK.due("feed() as call 512", shelf.feed('z', 1), 512);
        RecordShelf last = new RecordShelf();
        last.fresh();
        for (int call = 2; call < 512; call += 2) {
            last.field(0, 1, ' ', ' ');
            last.drop(0, 0);
        }
        CHECK.due("field() as call 512", last.field(0, 1, ' ', ' '), 0);
    }

    private static int anyNumber(Random random) {
        return NUMBERS[random.nextInt(NUMBERS.length)];
    }

    private static char anyChar(Random random) {
        return random.nextInt(3) == 0 ? (char) random.nextInt(65536) : "a9 *\0".charAt(random.nextInt(5));
    }

    /** Any call with any arguments; small numbers are the most. */
    private static void anyCall(RecordShelf shelf, Random random) {
        int a = random.nextInt(4) == 0 ? anyNumber(random) : random.nextInt(3);
        int b = random.nextInt(4) == 0 ? anyNumber(random) : random.nextInt(3);
        int c = random.nextInt(4) == 0 ? anyNumber(random) : random.nextInt(3);
        int d = anyNumber(random);
        char x = anyChar(random);
        char y = anyChar(random);
        switch (random.nextInt(19)) {
            case 0: shelf.feed(random.nextLong(), d); break;
            case 1: shelf.feed(0x3030303136323030L, d); break;
            case 2: shelf.cut(d); break;
            case 3: shelf.letter(d); break;
            case 4: shelf.read(); break;
            case 5: shelf.place(); break;
            case 6: shelf.fresh(); break;
            case 7: case 8: shelf.field(a, d, x, y); break;
            case 9: shelf.subfield(a, b, x); break;
            case 10: shelf.append(a, b, c, x); break;
            case 11: shelf.drop(a, b); break;
            case 12: shelf.write(a); break;
            case 13: shelf.many(a, b); break;
            case 14: shelf.mark(a, b, c); break;
            case 15: shelf.shown(a, b, c, d); break;
            case 16: shelf.list(d, x); break;
            case 17: shelf.heading(d, a); break;
            default: shelf.find(d, x, a);
        }
    }

    private static void nothingIsThrown() {
        CHECK.says("nothing about an object after its 512th call");
        for (int seed = 0; seed < 200; seed++) {
            Random random = new Random(seed);
            RecordShelf shelf = new RecordShelf();
            boolean thrown = false;
            try {
                for (int call = 0; call < 3000; call++) {
                    anyCall(shelf, random);
                }
            } catch (RuntimeException e) {
                thrown = true;
            }
            CHECK.due("a call of seed " + seed + " throws", thrown, false);
        }
    }

    public static void main(String[] args) {
        lastPromisedCall();
        nothingIsThrown();
        CHECK.end();
    }
}
