/**
 * The edges of promises 33 to 36, of what a new terrace leaves behind (promise 4), and of the 512 calls that an object
 * is used for, sentence by sentence. Each image that is refused, and that all stays then, is in RefusalTest.
 */
public final class ImageEdgesTest {
    private static final Check CHECK = new Check("ImageEdgesTest");
    private static final int LEAST = Integer.MIN_VALUE;
    private static final int MOST = Integer.MAX_VALUE;

    public static void main(String[] args) {
        sizes();
        yearBytes();
        order();
        checks();
        latestImage();
        lastThatIsTaken();
        everyByte();
        ofThisTerrace();
        nothingKept();
        asAtFirst();
        counters();
        lastCall();
        CHECK.finish();
    }

    /** "for each PERSON his HOUSE, PORTRAIT, 1 if he SPARES, else 0, what he thinks of each other one": nobody to eight. */
    private static void sizes() {
        for (int people = 0; people <= 8; people++) {
            Retouched x = Check.told(Check.row(9, people, 1, 1));
            int size = 3 + people * (people + 2);
            CHECK.due("octet(0) of none yet", x.octet(0), -1);
            CHECK.due("image() of " + people, x.image(), size);
            CHECK.due("octet(-1) of " + people, x.octet(-1), -1);
            CHECK.due("octet(first) of " + people, x.octet(0), 0);
            CHECK.due("octet(last) of " + people, x.octet(size - 1) >= 0, true);
            CHECK.due("octet(behind) of " + people, x.octet(size), -1);
            CHECK.due("octet(least) of " + people, x.octet(LEAST), -1);
            CHECK.due("octet(most) of " + people, x.octet(MOST), -1);
            int[] bytes = Check.image(x);
            CHECK.due("on() of " + people, Check.on(x, bytes), true);
        }
        Retouched x = new Retouched();
        CHECK.due("image() without a terrace", x.image(), 3);
        CHECK.due("on() without a terrace", Check.on(x, 0, 0, 86), false);
        CHECK.due("status(5)", x.status(5), 1);
    }

    /** "YEAR (two bytes, the higher first)": 0, 255, 256, 999. */
    private static void yearBytes() {
        Retouched x = Check.told("terrace 2;");
        int[][] due = {{0, 0, 0}, {1, 0, 1}, {255, 0, 255}, {256, 1, 0}, {511, 1, 255}, {512, 2, 0}, {768, 3, 0}, {999, 3, 231}};
        for (int[] row : due) {
            int[] bytes = {row[1], row[2], 0};
            PictureTest.mend(bytes);
            CHECK.due("on() of " + row[0], Check.on(x, bytes), true);
            CHECK.due("has(2)", x.has(2), row[0]);
            CHECK.due("image() of " + row[0], x.image(), 3);
            CHECK.due("octet(0) of " + row[0], x.octet(0), row[1]);
            CHECK.due("octet(1) of " + row[0], x.octet(1), row[2]);
        }
    }

    /** "by numbers": people and thoughts by their numbers, not by houses; himself left out. */
    private static void order() {
        Retouched x = Check.told("terrace 9;soul a at 8 face 1 kind 1;soul b at 0 face 2 kind 1;soul c at 4 face 3 kind 1;"
                + "thinks a of b 1;thinks a of c 2;thinks b of a 3;thinks b of c 4;thinks c of a 6;thinks c of b 7;");
        x.spare(1, 1);
        int[] due = {0, 0, 8, 10, 0, 1, 2, 0, 20, 1, 3, 4, 4, 30, 0, 6, 7, 0};
        PictureTest.mend(due);
        CHECK.due("image()", x.image(), 18);
        for (int k = 0; k < due.length; k++) {
            CHECK.due("octet(" + k + ")", x.octet(k), due[k]);
        }
    }

    /** "last a byte: all ahead from 149 on, c = (3 c + it) mod 251": every check but the one is refused. */
    private static void checks() {
        int[] bytes = Check.image(Check.told(Check.row(2, 2, 9, 1)));
        int right = bytes[bytes.length - 1];
        for (int check = 0; check < 256; check++) {
            Retouched x = Check.told(Check.row(2, 2, 9, 1));
            bytes[bytes.length - 1] = check;
            CHECK.due("on() with the check " + check, Check.on(x, bytes), check == right);
            CHECK.due("status(5)", x.status(5), check == right ? 0 : 1);
        }
    }

    /** "Byte k of the latest image()": it stays what it was until the next one, shorter or longer. */
    private static void latestImage() {
        Retouched x = Check.told(Check.row(9, 8, 1, 1));
        CHECK.due("image() of eight", x.image(), 83);
        x.years(7);
        CHECK.due("octet(1) behind years()", x.octet(1), 0);
        int last = x.octet(82);
        Check.terrace(x, Check.row(9, 1, 1, 1));
        CHECK.due("octet(82) behind terrace()", x.octet(82), last);
        CHECK.due("on() of no image", Check.on(x, 0, 5, 0, 10, 0, 0), false);
        CHECK.due("octet(82) behind a refused on()", x.octet(82), last);
        int[] bytes = {0, 5, 0, 10, 0, 0};
        PictureTest.mend(bytes);
        CHECK.due("on()", Check.on(x, bytes), true);
        CHECK.due("octet(1) behind on()", x.octet(1), 0);
        CHECK.due("octet(82) behind on()", x.octet(82), last);
        CHECK.due("image() of one", x.image(), 6);
        CHECK.due("octet(5)", x.octet(5) >= 0, true);
        CHECK.due("octet(6)", x.octet(6), -1);
        CHECK.due("octet(82)", x.octet(82), -1);
    }

    /** "(YEAR 999, PORTRAITS 99, thoughts 9 at most; HOUSES that there are, no two PEOPLE in one)": all at the most at once. */
    private static void lastThatIsTaken() {
        for (int houses = 2; houses <= 9; houses++) {
            Retouched x = Check.told(Check.row(houses, 2, 1, 1));
            int[] bytes = {3, 231, houses - 1, 99, 1, 9, 0, 99, 1, 9, 0};
            PictureTest.mend(bytes);
            CHECK.due("on() of the most in " + houses, Check.on(x, bytes), true);
            CHECK.due("has(2)", x.has(2), 999);
            CHECK.due("person(0, 0)", x.person(0, 0), houses - 1);
            CHECK.due("house(last)", x.house(houses - 1), 0);
            CHECK.due("house(0)", x.house(0), 1);
            CHECK.due("person(0, 1)", x.person(0, 1), 99);
            CHECK.due("has(4)", x.has(4), 2);
            CHECK.due("thinks(0, 1)", x.thinks(0, 1), 9);
            CHECK.due("thinks(1, 0)", x.thinks(1, 0), 9);
            for (int h = 1; h < houses - 1; h++) {
                CHECK.due("house(" + h + ")", x.house(h), -1);
            }
            bytes[2] = houses;
            PictureTest.mend(bytes);
            CHECK.due("on() of the house " + houses, Check.on(x, bytes), false);
            CHECK.due("house(last) stays", x.house(houses - 1), 0);
            int[] least = {0, 0, 0, 0, 0, 0, 1, 0, 0, 0, 0};
            PictureTest.mend(least);
            CHECK.due("on() of the least in " + houses, Check.on(x, least), true);
            CHECK.due("has(2)", x.has(2), 0);
            CHECK.due("has(3)", x.has(3), 2);
            CHECK.due("has(4)", x.has(4), 0);
            CHECK.due("thinks(1, 0)", x.thinks(1, 0), 0);
            // The true faces are the terrace's own.
            CHECK.due("person(0, 2)", x.person(0, 2), 1);
            CHECK.due("right(0)", x.right(0), true);
            CHECK.due("person(0, 1)", x.person(0, 1), 10);
        }
    }

    /** Each byte of an image with each value: what is taken, and what is not. */
    private static void everyByte() {
        // YEAR 3 x 256 + 100, then house, portrait, spares, thought of each.
        int[] sound = {3, 100, 2, 50, 0, 5, 4, 60, 1, 6, 0};
        int[] most = {3, 231, 4, 99, 1, 9, 4, 99, 1, 9};
        for (int at = 0; at < 10; at++) {
            Retouched x = Check.told(Check.row(5, 2, 1, 1));
            for (int b = 0; b < 256; b++) {
                x = b % 64 == 0 ? Check.told(Check.row(5, 2, 1, 1)) : x;
                int[] bytes = sound.clone();
                bytes[at] = b;
                PictureTest.mend(bytes);
                boolean canBe = b <= most[at] && !(at == 2 && b == 4) && !(at == 6 && b == 2);
                CHECK.due("on() with " + b + " at " + at, Check.on(x, bytes), canBe);
            }
        }
    }

    /** "AN IMAGE of this TERRACE": one of another number of people is none. */
    private static void ofThisTerrace() {
        for (int people = 0; people <= 8; people++) {
            for (int others = 0; others <= 8; others++) {
                Retouched x = Check.told(Check.row(9, people, 1, 1));
                int[] bytes = Check.image(Check.told(Check.row(9, others, 2, 1)));
                CHECK.due("on() of " + others + " for " + people, Check.on(x, bytes), people == others);
            }
        }
        // Of fewer houses: those that there are.
        Retouched x = Check.told(Check.row(3, 2, 1, 1));
        int[] bytes = Check.image(Check.told(Check.row(9, 2, 2, 1)));
        CHECK.due("on() of more houses, in the first ones", Check.on(x, bytes), true);
        CHECK.due("person(0, 1)", x.person(0, 1), 20);
        // On an empty tape, and with bytes behind it.
        CHECK.due("on() of an empty tape", x.on(), false);
        int[] longer = java.util.Arrays.copyOf(bytes, bytes.length + 1);
        CHECK.due("on() with a byte behind", Check.on(x, longer), false);
        CHECK.due("status(5)", x.status(5), 2);
    }

    /** "true, all is as it tells, nothing is KEPT or can be undone"; SEEN rows and the seed are no part of it. */
    private static void nothingKept() {
        Retouched x = Check.told(Check.row(2, 2, 1, 1) + "paints 0;slip 100;");
        int[] bytes = Check.image(x);
        x.years(5);
        Check.see(x, 0, 0, 10);
        CHECK.due("has(7) ahead", x.has(7), 2);
        CHECK.due("on()", Check.on(x, bytes), true);
        CHECK.due("has(7)", x.has(7), 0);
        CHECK.due("kept(0, 0)", x.kept(0, 0), -1);
        CHECK.due("has(9)", x.has(9), 0);
        CHECK.due("undo()", x.undo(), false);
        CHECK.due("has(8)", x.has(8), 1);
        CHECK.due("years(1)", x.years(1), 2);
        CHECK.due("has(7) from then on", x.has(7), 2);
        CHECK.due("kept(0, 0) from then on", x.kept(0, 0), 0);
        CHECK.due("undo() from then on", x.undo(), true);
        CHECK.due("has(7) behind it", x.has(7), 0);
        CHECK.due("has(6) behind it", x.has(6), 20);
        // Two whose seeds and draws are alike: one of them takes its own image up between two draws.
        String slips = Check.row(9, 8, 1, 1) + "slip 100;";
        Retouched one = Check.told(slips);
        Retouched other = Check.told(slips);
        one.seed(77);
        other.seed(77);
        one.chance(3);
        other.chance(3);
        CHECK.due("on() between two draws", Check.on(one, Check.image(one)), true);
        one.chance(3);
        other.chance(3);
        for (int p = 0; p < 8; p++) {
            CHECK.due("person(" + p + ", 1) by the same draws", one.person(p, 1), other.person(p, 1));
        }
    }

    /** "Without one all is as at first, nothing is KEPT, SEEN or can be undone; the seed stays." */
    private static void asAtFirst() {
        String text = Check.row(5, 3, 4, 1) + "paints look-20;minds thinks-1;slip 30;";
        Retouched x = Check.told(text);
        x.spare(2, 1);
        x.change(0, 4);
        x.years(9);
        Check.see(x, 0, 0, 10);
        CHECK.due("has(7) ahead", x.has(7) > 0, true);
        CHECK.due("terrace() of the same once more", Check.terrace(x, text), 7);
        int[] due = {5, 3, 0, 0, 0, 0, 120, 0, 0, 0};
        for (int what = 0; what < due.length; what++) {
            CHECK.due("has(" + what + ")", x.has(what), due[what]);
        }
        Retouched fresh = Check.told(text);
        int[] one = Check.image(x);
        int[] other = Check.image(fresh);
        for (int k = 0; k < other.length; k++) {
            CHECK.due("octet(" + k + ")", one[k], other[k]);
        }
        CHECK.due("kept(0, 0)", x.kept(0, 0), -1);
        CHECK.due("thoughts(0, 1)", x.thoughts(0, 1), 1023);
        CHECK.due("undo()", x.undo(), false);
        CHECK.due("fault(0)", x.fault(0), 0);
        CHECK.due("fault(1)", x.fault(1), -1);
        // Fewer houses, fewer people: nothing of those before is left.
        Check.terrace(x, "terrace 2;");
        for (int h = 0; h < 9; h++) {
            CHECK.due("house(" + h + ")", x.house(h), -1);
        }
        for (int p = 0; p < 8; p++) {
            CHECK.due("person(" + p + ", 1)", x.person(p, 1), -1);
        }
        CHECK.due("change(0, 1) of nobody", x.change(0, 1), false);
        CHECK.due("years(1) of nobody", x.years(1), 0);
    }

    /** "How many were refused: 0 feed(), end(); 1 terrace(), see(); 2 change(), .. 5 seed(), on(). NONE for others." */
    private static void counters() {
        for (int call = 0; call < 12; call++) {
            Retouched x = new Retouched();
            int counter = refuse(x, call);
            for (int what = 0; what <= 5; what++) {
                CHECK.due("status(" + what + ") of call " + call, x.status(what), what == counter ? 1 : 0);
            }
            refuse(x, call);
            CHECK.due("status(" + counter + ") of call " + call + " twice", x.status(counter), 2);
            CHECK.due("status(6)", x.status(6), -1);
            CHECK.due("status(-1)", x.status(-1), -1);
        }
        // What is counted is counted on behind terrace(), on() and undo().
        Retouched x = new Retouched();
        for (int call = 0; call < 12; call++) {
            refuse(x, call);
        }
        Check.terrace(x, Check.row(2, 2, 1, 1));
        int[] bytes = Check.image(x);
        Check.on(x, bytes);
        x.years(1);
        x.undo();
        int[] due = {2, 2, 3, 2, 1, 2};
        for (int what = 0; what <= 5; what++) {
            CHECK.due("status(" + what + ") of all", x.status(what), due[what]);
        }
    }

    /** One refused call of a new object; by which status it is counted. */
    private static int refuse(Retouched x, int call) {
        switch (call) {
            case 0: x.end(-1); return 0;
            case 1:
                for (int i = 0; i < 80; i++) {
                    x.feed(0, 0, 0, 0, 0);
                }
                x.feed(0, 0, 0, 0, 0);
                x.end(0);
                return 0;
            case 2: x.terrace(); return 1;
            case 3: x.see(); return 1;
            case 4: x.change(0, 1); return 2;
            case 5: x.right(0); return 2;
            case 6: x.spare(0, 1); return 2;
            case 7: x.years(1); return 3;
            case 8: x.chance(1); return 3;
            case 9: x.undo(); return 4;
            case 10: x.seed(-1); return 5;
            default: x.on(); return 5;
        }
    }

    /** "An object is used for at most 512 calls after it has been made": the 512th is answered as any other. */
    private static void lastCall() {
        Retouched x = new Retouched();
        for (int i = 0; i < 511; i++) {
            x.undo();
        }
        CHECK.due("status(4), the 512th call", x.status(4), 511);
        x = new Retouched();
        // Six calls tell a terrace, 505 change houses, and the last one undoes.
        Check.terrace(x, Check.row(2, 2, 1, 1) + "slip 50;          ");
        for (int i = 0; i < 505; i++) {
            CHECK.due("change(0, 1)", x.change(0, 1), true);
        }
        CHECK.due("undo(), the last call", x.undo(), true);
        x = new Retouched();
        Check.terrace(x, Check.row(2, 2, 1, 1) + "paints look+1;");
        for (int i = 0; i < 480; i++) {
            x.years(1);
        }
        CHECK.due("has(2) behind 480 calls", x.has(2), 480);
        CHECK.due("person(1, 1) behind 480 calls", x.person(1, 1), 99);
    }
}
