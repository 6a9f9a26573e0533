import java.util.function.ToLongFunction;

/**
 * Each call that is refused, by each of the causes that the document names: its answer, what promise 36 counts of it,
 * and that all else stays as it was; and each question that can't be answered, which is counted nowhere.
 */
public final class RefusalTest {
    private static final Check CHECK = new Check("RefusalTest");
    private static final long NOTHING = -1000000000000000L;
    private static final int LEAST = Integer.MIN_VALUE;
    private static final int MOST = Integer.MAX_VALUE;
    private static final String THREE = "terrace 5;soul a at 0 face 3 kind 4;soul b at 1 face 6 kind 1;soul c at 3 face 2 kind 8;"
            + "thinks a of b 2;thinks b of a 7;paints (look-9)*min(1,look)+30*(1-min(1,look));minds thinks+gain/4;slip 60;";

    private static final Twins NEW = new Twins(CHECK, "a new object", RefusalTest::fresh);
    private static final Twins TOLD = new Twins(CHECK, "a terrace just told", RefusalTest::told);
    private static final Twins PLAYED = new Twins(CHECK, "a terrace some years on", RefusalTest::played);
    private static final Twins FULL = new Twins(CHECK, "a terrace with all places taken", RefusalTest::full);
    private static final Twins LAST = new Twins(CHECK, "a terrace in the year 999", RefusalTest::last);
    private static final Twins[] ALL = {NEW, TOLD, PLAYED, FULL, LAST};
    private static final Twins[] STANDING = {TOLD, PLAYED, FULL, LAST};

    public static void main(String[] args) {
        states();
        feed();
        end();
        terrace();
        see();
        change();
        right();
        spare();
        years();
        undo();
        seed();
        on();
        ask();
        questionsOfNobody();
        questionsOfNone();
        extremes();
        CHECK.finish();
    }

    /** A question is left on the tape, so that one can tell whether the tape stays. */
    private static Retouched fresh() {
        Retouched x = new Retouched();
        Check.text(x, "total look*7+house");
        return x;
    }

    private static Retouched told() {
        Retouched x = Check.told(THREE);
        Check.text(x, "total look*7+house");
        return x;
    }

    private static Retouched played() {
        Retouched x = Check.told(THREE);
        x.seed(4711);
        x.years(8);
        x.spare(1, 1);
        x.change(4, 3);
        x.chance(5);
        Check.see(x, 0, 0, x.person(0, 1), 2, 2, x.person(2, 1));
        x.image();
        x.years(2);
        Check.ask(x, "total ?");
        Check.text(x, "total look*7+house");
        return x;
    }

    private static Retouched full() {
        Retouched x = Check.told(THREE);
        x.years(100);
        x.years(100);
        for (int i = 0; i < 20; i++) {
            x.spare(i % 3, i / 3 % 2 == 0 ? 1 : 0);
        }
        Check.see(x, new int[48]);
        x.image();
        StringBuilder text = new StringBuilder("total look*7+house");
        while (text.length() < 1600) {
            text.append(' ');
        }
        Check.text(x, text.toString());
        return x;
    }

    private static Retouched last() {
        Retouched x = Check.told(THREE);
        for (int i = 0; i < 9; i++) {
            x.years(100);
        }
        x.years(99);
        Check.see(x, 0, 0, x.person(0, 1));
        x.image();
        Check.text(x, "total look*7+house");
        return x;
    }

    /** That the states are what they are called: nothing there yet, something, all places taken, the last year. */
    private static void states() {
        int[][] due = {{0, 0, 0, 0, 0}, {3, 0, 0, 0, 0}, {3, 15, -1, 2, 5}, {3, 200, 40, 16, 20}, {3, 999, 40, 1, 10}};
        Retouched[] states = {fresh(), told(), played(), full(), last()};
        int[] whats = {1, 2, 7, 8, 9};
        for (int i = 0; i < states.length; i++) {
            for (int k = 0; k < whats.length; k++) {
                int got = states[i].has(whats[k]);
                CHECK.due("has(" + whats[k] + ") of state " + i, got, due[i][k] < 0 ? Math.max(1, Math.min(39, got)) : due[i][k]);
            }
        }
    }

    private static long number(boolean answer) {
        return answer ? 1 : 0;
    }

    /** "NONE, refused (0), if there would be more than 1600": with 1600, and with 1581, the first that is too many. */
    private static void feed() {
        FULL.stays("feed()", x -> x.feed(0x31313131, 1, 2, 3, 4), -1, 0);
        Twins most = new Twins(CHECK, "a tape of 1581", () -> cut(1581));
        most.stays("feed()", x -> x.feed(LEAST, -1, MOST, 3, 4), -1, 0);
        CHECK.due("feed() of a tape of 1580", cut(1580).feed(1, 2, 3, 4, 5), 1600);
        CHECK.due("status(0)", cut(1580).status(0), 0);
    }

    private static Retouched cut(int n) {
        Retouched x = full();
        x.end(n);
        return x;
    }

    /** "false, refused (0), if it has not so many, or n is below 0". */
    private static void end() {
        for (Twins twins : new Twins[] {NEW, TOLD, PLAYED, LAST}) {
            twins.stays("end(-1)", x -> number(x.end(-1)), 0, 0);
            twins.stays("end(19)", x -> number(x.end(19)), 0, 0);
            twins.stays("end(least)", x -> number(x.end(LEAST)), 0, 0);
            twins.stays("end(most)", x -> number(x.end(MOST)), 0, 0);
            twins.stays("end(18), the length", x -> number(x.end(18)), 1, -1);
        }
        FULL.stays("end(1601)", x -> number(x.end(1601)), 0, 0);
        FULL.stays("end(1600), the length", x -> number(x.end(1600)), 1, -1);
        Twins empty = new Twins(CHECK, "an empty tape", () -> Check.told(THREE));
        empty.stays("end(1)", x -> number(x.end(1)), 0, 0);
        empty.stays("end(0)", x -> number(x.end(0)), 1, -1);
    }

    /** "NONE, refused (1), with a FAULT (all stays; one without a STATEMENT has FAULT 1 at its length)". */
    private static void terrace() {
        for (Twins twins : ALL) {
            fault(twins, "", 1, 0);
            fault(twins, " \n ", 1, 3);
            fault(twins, "terrace 5;soul z at 0 face 9 kind 9;paints 7;slip 100;?", 1, 54);
            fault(twins, "terrace 10;", 2, 8);
            fault(twins, "terrace 4;soul z at 1 face 9 kind 9;thinks z of z 1;", 3, 48);
            fault(twins, "terrace 4;soul z at 1 face 9 kind 9;feud not not not not not not not all;", 4, 65);
            fault(twins, "terrace 4;soul z at 1 face 9 kind 9;paints 1;minds 1;feud all;feud all;", 5, 62);
        }
    }

    private static void fault(Twins twins, String text, int kind, int place) {
        ToLongFunction<Retouched> told = x -> {
            x.end(0);
            int answer = Check.terrace(x, text);
            CHECK.due("fault(0) of " + text, x.fault(0), kind);
            CHECK.due("fault(1) of " + text, x.fault(1), place);
            return answer;
        };
        twins.staysBut("terrace() of " + text, told, -1, 1, false);
    }

    /** "1 to 16 rows of three bytes: .. NONE, refused (1), all staying, when it is none such (PORTRAITS above 99, too)". */
    private static void see() {
        for (Twins twins : ALL) {
            unseen(twins);
            unseen(twins, 0);
            unseen(twins, 0, 0);
            unseen(twins, 0, 0, 0, 0);
            unseen(twins, 0, 0, 0, 0, 0);
            unseen(twins, 31, 0, 0);
            unseen(twins, 255, 0, 0);
            unseen(twins, 0, 3, 0);
            unseen(twins, 0, 255, 0);
            unseen(twins, 0, 0, 100);
            unseen(twins, 0, 0, 255);
            unseen(twins, 0, 0, 9, 1, 1, 99, 0, 0, 100);
            unseen(twins, 0, 0, 9, 1, 3, 99, 0, 0, 10);
            unseen(twins, 31, 0, 9, 1, 1, 99, 0, 0, 10);
            unseen(twins, new int[49]);
            unseen(twins, new int[50]);
            unseen(twins, new int[51]);
        }
        unseen(NEW, 0, 0, 0);
    }

    private static void unseen(Twins twins, int... bytes) {
        twins.staysBut("see() of " + java.util.Arrays.toString(bytes), x -> {
            x.end(0);
            return Check.see(x, bytes);
        }, -1, 1, true);
    }

    /** "false, refused (2), when both are empty, they are one, or there are none such". */
    private static void change() {
        for (Twins twins : new Twins[] {TOLD, FULL, LAST}) {
            unchanged(twins, 2, 4);
            unchanged(twins, 4, 2);
        }
        unchanged(PLAYED, 2, 3);
        for (Twins twins : ALL) {
            for (int house = 0; house < 5; house++) {
                unchanged(twins, house, house);
            }
            unchanged(twins, 0, 5);
            unchanged(twins, 5, 0);
            unchanged(twins, 0, -1);
            unchanged(twins, -1, 0);
            unchanged(twins, 5, 5);
            unchanged(twins, -1, -1);
            unchanged(twins, LEAST, MOST);
        }
        unchanged(NEW, 0, 1);
    }

    private static void unchanged(Twins twins, int one, int other) {
        twins.stays("change(" + one + ", " + other + ")", x -> number(x.change(one, other)), 0, 2);
    }

    /** "false, refused (2), when it is so already, or there is none such". */
    private static void right() {
        for (int person = 0; person < 3; person++) {
            int one = person;
            TOLD.stays("right(" + one + ")", x -> number(x.right(one)), 0, 2);
        }
        for (Twins twins : ALL) {
            twins.stays("right(3)", x -> number(x.right(3)), 0, 2);
            twins.stays("right(8)", x -> number(x.right(8)), 0, 2);
            twins.stays("right(-1)", x -> number(x.right(-1)), 0, 2);
            twins.stays("right(least)", x -> number(x.right(LEAST)), 0, 2);
            twins.stays("right(most)", x -> number(x.right(MOST)), 0, 2);
        }
        NEW.stays("right(0)", x -> number(x.right(0)), 0, 2);
        // A curtain of one whose true face is 0 is so already.
        Twins curtain = new Twins(CHECK, "a true face 0", () -> Check.told("terrace 2;soul a at 0 face 0 kind 0;"));
        curtain.stays("right(0)", x -> number(x.right(0)), 0, 2);
    }

    /** "false, refused (2), when he does already, there is none such, or for others". */
    private static void spare() {
        unspared(TOLD, 0, 0);
        unspared(TOLD, 2, 0);
        unspared(PLAYED, 1, 1);
        unspared(PLAYED, 0, 0);
        for (Twins twins : ALL) {
            unspared(twins, 3, 1);
            unspared(twins, 3, 0);
            unspared(twins, -1, 1);
            unspared(twins, -1, 0);
            unspared(twins, 0, 2);
            unspared(twins, 0, -1);
            unspared(twins, 1, 2);
            unspared(twins, 1, LEAST);
            unspared(twins, LEAST, MOST);
        }
        unspared(NEW, 0, 1);
        unspared(NEW, 0, 0);
    }

    private static void unspared(Twins twins, int person, int on) {
        twins.stays("spare(" + person + ", " + on + ")", x -> number(x.spare(person, on)), 0, 2);
    }

    /** "NONE, refused (3), when it can't be, or without a terrace", of years() and of chance(). */
    private static void years() {
        for (Twins twins : ALL) {
            for (int n : new int[] {0, -1, 101, 1000, LEAST, MOST, MOST - 998}) {
                noYears(twins, n);
            }
        }
        noYears(NEW, 1);
        noYears(NEW, 100);
        noYears(LAST, 1);
        noYears(LAST, 100);
        Twins near = new Twins(CHECK, "a terrace in the year 998", () -> {
            Retouched x = last();
            x.undo();
            x.years(98);
            return x;
        });
        noYears(near, 2);
        noYears(near, 100);
    }

    private static void noYears(Twins twins, int n) {
        twins.stays("years(" + n + ")", x -> x.years(n), -1, 3);
        twins.stays("chance(" + n + ")", x -> x.chance(n), -1, 3);
    }

    /** "false, refused (4), when none can be": none was, all were undone, a terrace was told, an image was taken. */
    private static void undo() {
        NEW.stays("undo()", x -> number(x.undo()), 0, 4);
        TOLD.stays("undo()", x -> number(x.undo()), 0, 4);
        Twins undone = new Twins(CHECK, "a terrace with all undone", () -> {
            Retouched x = full();
            for (int i = 0; i < 20; i++) {
                CHECK.due("undo() " + i, x.undo(), true);
            }
            return x;
        });
        undone.stays("undo()", x -> number(x.undo()), 0, 4);
        Twins again = new Twins(CHECK, "a terrace told again", () -> {
            Retouched x = played();
            x.end(0);
            Check.terrace(x, THREE);
            return x;
        });
        again.stays("undo()", x -> number(x.undo()), 0, 4);
        Twins imaged = new Twins(CHECK, "an image taken", () -> {
            Retouched x = played();
            x.end(0);
            Check.on(x, Check.image(x));
            return x;
        });
        imaged.stays("undo()", x -> number(x.undo()), 0, 4);
    }

    /** "false, refused (5), when it is below 0". */
    private static void seed() {
        for (Twins twins : ALL) {
            twins.stays("seed(-1)", x -> number(x.seed(-1)), 0, 5);
            twins.stays("seed(least)", x -> number(x.seed(LEAST)), 0, 5);
        }
        TOLD.stays("seed(1), as at first", x -> number(x.seed(1)), 1, -1);
    }

    /** "false, refused (5), when it is none (..), or without a terrace, all staying". */
    private static void on() {
        for (Twins twins : STANDING) {
            // Of three people: 2, 7, 12 their houses, 3, 8, 13 portraits, 4, 9, 14 spares, then two thoughts each.
            spoiled(twins, "YEAR 1000", 0, 3, 1, 1000 - 768);
            spoiled(twins, "YEAR 1024", 0, 4, 1, 0);
            spoiled(twins, "YEAR 65535", 0, 255, 1, 255);
            for (int p = 0; p < 3; p++) {
                int from = 2 + 5 * p;
                spoiled(twins, "a HOUSE that is none", from, 5, from, 5);
                spoiled(twins, "HOUSE 255", from, 255, from, 255);
                spoiled(twins, "a PORTRAIT of 100", from + 1, 100, from + 1, 100);
                spoiled(twins, "a PORTRAIT of 255", from + 1, 255, from + 1, 255);
                spoiled(twins, "SPARES 2", from + 2, 2, from + 2, 2);
                spoiled(twins, "SPARES 255", from + 2, 255, from + 2, 255);
                spoiled(twins, "a thought of 10", from + 3, 10, from + 3, 10);
                spoiled(twins, "a thought of 255", from + 4, 255, from + 4, 255);
            }
            spoiled(twins, "a and b in one HOUSE", 2, 2, 7, 2);
            spoiled(twins, "a and c in one HOUSE", 2, 2, 12, 2);
            spoiled(twins, "b and c in one HOUSE", 7, 2, 12, 2);
            notOn(twins, "no byte at all", new int[0]);
            notOn(twins, "one byte", new int[] {149});
            notOn(twins, "an image of nobody", new int[] {0, 0, 86});
            for (int size : new int[] {17, 19, 38, 1600}) {
                int[] bytes = java.util.Arrays.copyOf(sound(), size);
                PictureTest.mend(bytes);
                notOn(twins, "an image of " + size, bytes);
            }
            int[] wrong = sound();
            wrong[17] = (wrong[17] + 1) % 251;
            notOn(twins, "a wrong check", wrong);
            int[] more = sound();
            more[17] = more[17] < 5 ? more[17] + 251 : 255;
            notOn(twins, "a check beyond 250", more);
        }
        notOn(NEW, "an image of nobody", new int[] {0, 0, 86});
        notOn(NEW, "no byte at all", new int[0]);
        notOn(NEW, "a sound image", sound());
    }

    private static int[] sound() {
        int[] bytes = {0, 9, 0, 30, 0, 2, 5, 1, 60, 1, 7, 5, 3, 20, 0, 5, 5, 0};
        PictureTest.mend(bytes);
        return bytes;
    }

    private static void spoiled(Twins twins, String what, int place, int octet, int otherPlace, int otherOctet) {
        int[] bytes = sound();
        bytes[place] = octet;
        bytes[otherPlace] = otherOctet;
        PictureTest.mend(bytes);
        notOn(twins, what, bytes);
    }

    private static void notOn(Twins twins, String what, int[] bytes) {
        twins.staysBut("on() of " + what, x -> {
            x.end(0);
            return number(Check.on(x, bytes));
        }, 0, 5, true);
    }

    /** "NOTHING with a FAULT, or, doing nothing else, without a terrace"; no promise counts it. */
    private static void ask() {
        for (Twins twins : STANDING) {
            for (String text : new String[] {"", "total", "total 1 1", "first 1", "total ((((((((1))))))))"}) {
                asked(twins, text, NOTHING, false);
            }
            asked(twins, "first not all", -1, false);
        }
        for (String text : new String[] {"", "total", "total 1"}) {
            asked(NEW, text, NOTHING, true);
        }
    }

    private static void asked(Twins twins, String text, long answer, boolean faultToo) {
        twins.staysBut("ask() of " + text, x -> {
            x.end(0);
            return Check.ask(x, text);
        }, answer, -1, faultToo);
    }

    /** Nothing can be told of people and houses that there are not; "without a terrace", too. */
    private static void questionsOfNobody() {
        none(NEW, "house(0)", x -> x.house(0));
        none(NEW, "feud(0)", x -> x.feud(0));
        none(NEW, "changed(1, 2)", x -> x.changed(1, 2));
        none(NEW, "stranger(1, 1, 1, 0)", x -> x.stranger(1, 1, 1, 0));
        none(NEW, "rest(1)", x -> x.rest(1));
        for (Twins twins : ALL) {
            int[] people = twins == NEW ? new int[] {0, 3, -1, LEAST, MOST} : new int[] {3, 7, 8, -1, LEAST, MOST};
            for (int p : people) {
                none(twins, "letter(" + p + ", 0)", x -> x.letter(p, 0));
                none(twins, "person(" + p + ", 1)", x -> x.person(p, 1));
                none(twins, "thinks(" + p + ", 0)", x -> x.thinks(p, 0));
                none(twins, "thinks(0, " + p + ")", x -> x.thinks(0, p));
                none(twins, "thinks(" + p + ", " + p + ")", x -> x.thinks(p, p));
                none(twins, "paints(" + p + ", 0)", x -> x.paints(p, 0));
                none(twins, "paints(" + p + ", 1)", x -> x.paints(p, 1));
                none(twins, "later(" + p + ", 0)", x -> x.later(p, 0));
                none(twins, "mind(" + p + ", 0, 0)", x -> x.mind(p, 0, 0));
                none(twins, "mind(0, " + p + ", 0)", x -> x.mind(0, p, 0));
                none(twins, "curtain(" + p + ")", x -> x.curtain(p));
                none(twins, "thoughts(" + p + ", 0)", x -> x.thoughts(p, 0));
                none(twins, "thoughts(0, " + p + ")", x -> x.thoughts(0, p));
                none(twins, "faces(" + p + ")", x -> x.faces(p));
                none(twins, "tells(" + p + ", 0, 0)", x -> x.tells(p, 0, 0));
                none(twins, "tells(0, " + p + ", 0)", x -> x.tells(0, p, 0));
            }
            for (int house : new int[] {5, 9, -1, LEAST, MOST}) {
                none(twins, "house(" + house + ")", x -> x.house(house));
                none(twins, "feud(" + house + ")", x -> x.feud(house));
            }
        }
    }

    private static void none(Twins twins, String call, ToLongFunction<Retouched> asked) {
        twins.stays(call, asked, -1, -1);
    }

    /** "or for others", "or they are one", "n can't be". */
    private static void questionsOfNone() {
        for (Twins twins : ALL) {
            for (int what : new int[] {-1, LEAST, MOST}) {
                noneOfWhat(twins, what);
            }
            none(twins, "fault(2)", x -> x.fault(2));
            none(twins, "has(10)", x -> x.has(10));
            none(twins, "letter(0, 6)", x -> x.letter(0, 6));
            none(twins, "person(0, 7)", x -> x.person(0, 7));
            none(twins, "paints(0, 2)", x -> x.paints(0, 2));
            none(twins, "kept(0, 3)", x -> x.kept(0, 3));
            none(twins, "kept(40, 0)", x -> x.kept(40, 0));
            none(twins, "kept(-1, 0)", x -> x.kept(-1, 0));
            none(twins, "changed(1, 3)", x -> x.changed(1, 3));
            none(twins, "stranger(1, 1, 1, 2)", x -> x.stranger(1, 1, 1, 2));
            none(twins, "tells(1, 0, 2)", x -> x.tells(1, 0, 2));
            none(twins, "status(6)", x -> x.status(6));
            none(twins, "octet(83)", x -> x.octet(83));
            none(twins, "octet(18)", x -> x.octet(18));
            none(twins, "thinks(1, 1)", x -> x.thinks(1, 1));
            none(twins, "mind(1, 1, 0)", x -> x.mind(1, 1, 0));
            none(twins, "thoughts(1, 1)", x -> x.thoughts(1, 1));
            none(twins, "tells(1, 1, 0)", x -> x.tells(1, 1, 0));
            for (int n : new int[] {-1, 61, LEAST, MOST, MOST - 998}) {
                none(twins, "later(1, " + n + ")", x -> x.later(1, n));
                none(twins, "mind(1, 0, " + n + ")", x -> x.mind(1, 0, n));
            }
            for (int n : new int[] {-1, 0, 21, LEAST, MOST, MOST - 998}) {
                none(twins, "changed(" + n + ", 0)", x -> x.changed(n, 0));
                none(twins, "stranger(1, 1, " + n + ", 0)", x -> x.stranger(1, 1, n, 0));
                none(twins, "rest(" + n + ")", x -> x.rest(n));
            }
            for (int one : new int[] {-1, 10, LEAST, MOST}) {
                none(twins, "stranger(" + one + ", 1, 1, 0)", x -> x.stranger(one, 1, 1, 0));
                none(twins, "stranger(1, " + one + ", 1, 0)", x -> x.stranger(1, one, 1, 0));
            }
        }
        none(LAST, "later(1, 1)", x -> x.later(1, 1));
        none(LAST, "mind(1, 0, 1)", x -> x.mind(1, 0, 1));
        none(LAST, "changed(1, 0)", x -> x.changed(1, 0));
        none(LAST, "stranger(1, 1, 1, 0)", x -> x.stranger(1, 1, 1, 0));
        none(LAST, "rest(1)", x -> x.rest(1));
        none(LAST, "tells(1, 0, 0)", x -> x.tells(1, 0, 0));
        none(LAST, "tells(1, 0, 1)", x -> x.tells(1, 0, 1));
    }

    private static void noneOfWhat(Twins twins, int what) {
        none(twins, "fault(" + what + ")", x -> x.fault(what));
        none(twins, "has(" + what + ")", x -> x.has(what));
        none(twins, "letter(0, " + what + ")", x -> x.letter(0, what));
        none(twins, "person(0, " + what + ")", x -> x.person(0, what));
        none(twins, "paints(0, " + what + ")", x -> x.paints(0, what));
        none(twins, "kept(0, " + what + ")", x -> x.kept(0, what));
        none(twins, "kept(" + what + ", 0)", x -> x.kept(what, 0));
        none(twins, "changed(1, " + what + ")", x -> x.changed(1, what));
        none(twins, "stranger(1, 1, 1, " + what + ")", x -> x.stranger(1, 1, 1, what));
        none(twins, "tells(1, 0, " + what + ")", x -> x.tells(1, 0, what));
        none(twins, "octet(" + what + ")", x -> x.octet(what));
        none(twins, "status(" + what + ")", x -> x.status(what));
    }

    /** What is asked of the years ahead, and of what is seen, changes nothing where it is answered either. */
    private static void extremes() {
        for (Twins twins : new Twins[] {TOLD, PLAYED, FULL}) {
            long later = told(twins).later(1, 60);
            twins.stays("later(1, 60)", x -> x.later(1, 60), later, -1);
            twins.stays("mind(1, 0, 60)", x -> x.mind(1, 0, 60), told(twins).mind(1, 0, 60), -1);
            twins.stays("curtain(1)", x -> x.curtain(1), told(twins).curtain(1), -1);
            twins.stays("changed(20, 2)", x -> x.changed(20, 2), told(twins).changed(20, 2), -1);
            twins.stays("stranger(9, 9, 20, 1)", x -> x.stranger(9, 9, 20, 1), told(twins).stranger(9, 9, 20, 1), -1);
            twins.stays("parted()", x -> x.parted(), told(twins).parted(), -1);
            twins.stays("rest(20)", x -> x.rest(20), told(twins).rest(20), -1);
            twins.stays("tells(1, 0, 1)", x -> x.tells(1, 0, 1), told(twins).tells(1, 0, 1), -1);
            twins.stays("faces(1)", x -> x.faces(1), told(twins).faces(1), -1);
            twins.stays("thoughts(1, 0)", x -> x.thoughts(1, 0), told(twins).thoughts(1, 0), -1);
        }
    }

    private static Retouched told(Twins twins) {
        if (twins == TOLD) {
            return told();
        }
        return twins == PLAYED ? played() : full();
    }
}
