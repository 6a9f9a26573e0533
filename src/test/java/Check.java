/** Counts answers that are not as due; each test makes one and ends with it. */
final class Check {
    private final String test;
    private int made = 0;
    private int wrong = 0;

    Check(String test) {
        this.test = test;
    }

    void due(String call, long got, long want) {
        made++;
        if (got != want) {
            wrong++;
            System.out.println(test + ": " + call + " answered " + got + ", due is " + want);
        }
    }

    void due(String call, boolean got, boolean want) {
        due(call, got ? 1 : 0, want ? 1 : 0);
    }

    void finish() {
        System.out.println(test + ": " + made + " answers, " + wrong + " wrong");
        System.exit(wrong == 0 && made > 0 ? 0 : 1);
    }

    /** Puts these bytes on the tape, behind what is there, and nothing else. */
    static void tape(Retouched x, int before, int... bytes) {
        for (int from = 0; from < bytes.length; from += 20) {
            int[] numbers = new int[5];
            for (int i = 0; i < 20; i++) {
                int octet = from + i < bytes.length ? bytes[from + i] & 255 : 0;
                numbers[i / 4] = numbers[i / 4] << 8 | octet;
            }
            x.feed(numbers[0], numbers[1], numbers[2], numbers[3], numbers[4]);
        }
        x.end(before + bytes.length);
    }

    static void text(Retouched x, String text) {
        tape(x, 0, text.chars().toArray());
    }

    static int terrace(Retouched x, String text) {
        text(x, text);
        return x.terrace();
    }

    static Retouched told(String text) {
        Retouched x = new Retouched();
        int count = terrace(x, text);
        if (count < 1) {
            throw new IllegalStateException("fault " + x.fault(0) + " at " + x.fault(1) + " of " + text);
        }
        return x;
    }

    static long ask(Retouched x, String text) {
        text(x, text);
        return x.ask();
    }

    static int see(Retouched x, int... bytes) {
        tape(x, 0, bytes);
        return x.see();
    }

    /** The bytes of the object's image now. */
    static int[] image(Retouched x) {
        int[] bytes = new int[x.image()];
        for (int k = 0; k < bytes.length; k++) {
            bytes[k] = x.octet(k);
        }
        return bytes;
    }

    /** It becomes that year, by an image; nothing is kept or can be undone behind it. */
    static void toYear(Retouched x, int year) {
        int[] bytes = image(x);
        bytes[0] = year / 256;
        bytes[1] = year % 256;
        PictureTest.mend(bytes);
        if (!on(x, bytes) || x.has(2) != year) {
            throw new IllegalStateException("no way to the year " + year);
        }
    }

    /** A row of houses with people in the first ones, a, b, c and so on, all of one face and one kind. */
    static String row(int houses, int people, int face, int kind) {
        StringBuilder text = new StringBuilder("terrace ").append(houses).append(';');
        for (int i = 0; i < people; i++) {
            text.append("soul ").append((char) ('a' + i)).append(" at ").append(i);
            text.append(" face ").append(face).append(" kind ").append(kind).append(';');
        }
        return text.toString();
    }

    static boolean on(Retouched x, int... bytes) {
        tape(x, 0, bytes);
        return x.on();
    }
}
