import java.lang.management.ManagementFactory;

/** The room of a run: an object is made once, and no call makes anything more. */
public final class RoomTest {
    private static final Check CHECK = new Check("RoomTest");
    private static final com.sun.management.ThreadMXBean THREADS =
            (com.sun.management.ThreadMXBean) ManagementFactory.getThreadMXBean();
    private static long sink = 0;

    public static void main(String[] args) {
        long self = Thread.currentThread().getId();
        Retouched x = Check.told(text());
        allCalls(x);
        long before = THREADS.getThreadAllocatedBytes(self);
        x = new Retouched();
        long made = THREADS.getThreadAllocatedBytes(self) - before;
        // Some 14,000 elements of four bytes.
        CHECK.due("a new object takes " + made + " bytes", made < 80000, true);
        int[] numbers = numbers(text());
        feed(x, numbers, text().length());
        x.terrace();
        before = THREADS.getThreadAllocatedBytes(self);
        for (int i = 0; i < 20; i++) {
            feed(x, numbers, text().length());
            sink += x.terrace();
            allCalls(x);
        }
        made = THREADS.getThreadAllocatedBytes(self) - before;
        // What the measuring itself and text() take is far below one scene a call.
        CHECK.due("a thousand calls take " + made + " bytes", made < 20000, true);
        CHECK.finish();
    }

    private static String text() {
        return "terrace 9;soul a at 0 face 3 kind 4;soul b at 1 face 6 kind 1;soul c at 2 face 2 kind 8;soul d at 4 face 9 kind 9;"
                + "paints look+thinks*2-face+side;minds thinks+gain/4;feud thinks+back<10 or not [all and year=3];slip 50;";
    }

    private static int[] numbers(String text) {
        int[] numbers = new int[(text.length() + 19) / 20 * 5];
        for (int i = 0; i < numbers.length * 4; i++) {
            numbers[i / 4] = numbers[i / 4] << 8 | (i < text.length() ? text.charAt(i) : 32);
        }
        return numbers;
    }

    private static void feed(Retouched x, int[] numbers, int length) {
        for (int i = 0; i < numbers.length; i += 5) {
            x.feed(numbers[i], numbers[i + 1], numbers[i + 2], numbers[i + 3], numbers[i + 4]);
        }
        x.end(length);
    }

    private static void allCalls(Retouched x) {
        for (int k = 0; k < 10; k++) {
            sink += x.has(k) + x.letter(0, k) + x.house(k) + x.person(0, k) + x.thinks(0, k) + x.paints(1, k) + x.feud(k)
                    + x.kept(k, 0) + x.fault(k) + x.status(k);
        }
        sink += x.later(0, 60) + x.mind(0, 1, 60) + x.curtain(0) + x.changed(20, 0) + x.stranger(1, 1, 20, 0) + x.parted()
                + x.rest(20) + x.thoughts(0, 1) + x.faces(0) + x.tells(0, 1, 0) + x.image() + x.octet(3);
        // Rows of what is seen, a question ("often all"), an image that is none.
        x.feed(0x0100050a, 0x01050000, 0, 0, 0);
        x.end(6);
        sink += x.see();
        x.feed(0x6f667465, 0x6e20616c, 0x6c000000, 0, 0);
        x.end(9);
        sink += x.ask();
        x.end(0);
        sink += (x.on() ? 1 : 0) + (x.change(0, 8) ? 1 : 0) + (x.spare(1, 1) ? 1 : 0) + x.years(20) + x.chance(20)
                + (x.right(0) ? 1 : 0) + (x.undo() ? 1 : 0) + (x.seed(5) ? 1 : 0);
    }
}
