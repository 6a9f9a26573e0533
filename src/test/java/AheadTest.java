/** Promises 14 to 20: later, mind, curtain, changed, stranger, parted, rest. */
public final class AheadTest {
    private static final Check CHECK = new Check("AheadTest");
    // a is painted by 4 less, b by 3 less a year; a thinks one more of b each year, b one more of a.
    private static final String PAIR = "terrace 4;soul a at 1 face 9 kind 3;soul b at 2 face 4 kind 4;"
            + "thinks a of b 0;thinks b of a 7;paints look-kind;minds thinks+1;slip 100;";

    public static void main(String[] args) {
        later();
        mind();
        curtain();
        nearTheLastYear();
        changed();
        stranger();
        parted();
        rest();
        restByActs();
        nothingStays();
        CHECK.finish();
    }

    private static void later() {
        Retouched x = Check.told(PAIR);
        CHECK.due("later(0, 0)", x.later(0, 0), 90);
        CHECK.due("later(0, 1)", x.later(0, 1), 86);
        CHECK.due("later(0, 22)", x.later(0, 22), 2);
        CHECK.due("later(0, 23)", x.later(0, 23), 0);
        CHECK.due("later(1, 13)", x.later(1, 13), 1);
        CHECK.due("later(1, 60)", x.later(1, 60), 0);
        CHECK.due("later(1, 61)", x.later(1, 61), -1);
        CHECK.due("later(1, -1)", x.later(1, -1), -1);
        CHECK.due("later(2, 1)", x.later(2, 1), -1);
        CHECK.due("later(-1, 1)", x.later(-1, 1), -1);
        CHECK.due("later(1, most)", x.later(1, Integer.MAX_VALUE), -1);
        x.spare(1, 1);
        CHECK.due("later(0, 9) of one who is spared", x.later(0, 9), 90);
        CHECK.due("later(1, 9)", x.later(1, 9), 13);
    }

    private static void mind() {
        Retouched x = Check.told(PAIR);
        CHECK.due("mind(0, 1, 0)", x.mind(0, 1, 0), 0);
        CHECK.due("mind(0, 1, 4)", x.mind(0, 1, 4), 4);
        CHECK.due("mind(1, 0, 1)", x.mind(1, 0, 1), 8);
        CHECK.due("mind(1, 0, 3)", x.mind(1, 0, 3), 9);
        CHECK.due("mind(1, 0, 60)", x.mind(1, 0, 60), 9);
        CHECK.due("mind(1, 0, 61)", x.mind(1, 0, 61), -1);
        CHECK.due("mind(1, 0, -1)", x.mind(1, 0, -1), -1);
        CHECK.due("mind(1, 1, 0)", x.mind(1, 1, 0), -1);
        CHECK.due("mind(2, 0, 0)", x.mind(2, 0, 0), -1);
        CHECK.due("mind(0, 2, 0)", x.mind(0, 2, 0), -1);
    }

    private static void curtain() {
        Retouched x = Check.told(PAIR);
        CHECK.due("curtain(0)", x.curtain(0), 23);
        CHECK.due("curtain(1)", x.curtain(1), 14);
        CHECK.due("curtain(2)", x.curtain(2), -1);
        CHECK.due("curtain(-1)", x.curtain(-1), -1);
        x.years(14);
        CHECK.due("curtain(1) of a curtain", x.curtain(1), 0);
        CHECK.due("curtain(0) 14 years on", x.curtain(0), 9);
        // By the year alone: it is a curtain behind the year 59, which is 60 ahead, or behind the year 60.
        String late = "terrace 2;soul a at 0 face 9 kind 1;soul b at 1 face 9 kind 1;paints 99*max(0,min(1,";
        CHECK.due("curtain(0) 60 ahead", Check.told(late + "59-year));").curtain(0), 60);
        CHECK.due("curtain(0) 61 ahead", Check.told(late + "60-year));").curtain(0), -1);
        // A curtain between the two strokes of a year is none behind it.
        x = Check.told("terrace 3;soul a at 1 face 9 kind 1;soul b at 0 face 9 kind 1;soul c at 2 face 9 kind 1;paints side*50;");
        CHECK.due("curtain(0) between strokes", x.curtain(0), -1);
        CHECK.due("curtain(2)", x.curtain(2), 1);
    }

    private static void nearTheLastYear() {
        Retouched x = Check.told(PAIR + "feud all;");
        for (int i = 0; i < 9; i++) {
            x.years(100);
        }
        x.years(97);
        x.right(0);
        x.right(1);
        CHECK.due("has(2)", x.has(2), 997);
        CHECK.due("later(0, 2)", x.later(0, 2), 82);
        CHECK.due("later(0, 3)", x.later(0, 3), -1);
        CHECK.due("mind(0, 1, 2)", x.mind(0, 1, 2), 9);
        CHECK.due("mind(0, 1, 3)", x.mind(0, 1, 3), -1);
        CHECK.due("curtain(0)", x.curtain(0), -1);
        CHECK.due("changed(2, 2)", x.changed(2, 2), 130);
        CHECK.due("changed(3, 2)", x.changed(3, 2), -1);
        CHECK.due("stranger(1, 1, 2, 1)", x.stranger(1, 1, 2, 1), 4);
        CHECK.due("stranger(1, 1, 3, 1)", x.stranger(1, 1, 3, 1), -1);
        CHECK.due("rest(2)", x.rest(2), 0);
        CHECK.due("rest(3)", x.rest(3), -1);
        x.years(2);
        CHECK.due("has(2)", x.has(2), 999);
        CHECK.due("later(0, 0)", x.later(0, 0), 82);
        CHECK.due("later(0, 1)", x.later(0, 1), -1);
        CHECK.due("changed(1, 0)", x.changed(1, 0), -1);
        CHECK.due("stranger(1, 1, 1, 0)", x.stranger(1, 1, 1, 0), -1);
        CHECK.due("rest(1)", x.rest(1), -1);
        CHECK.due("parted()", x.parted(), 1);
        CHECK.due("paints(0, 1)", x.paints(0, 1), 78);
    }

    private static void changed() {
        // A pair of neighbours gains as much as both are kind: best with the kind one between the others.
        String kinds = "terrace 3;soul a at 0 face 5 kind 9;soul b at 1 face 5 kind 0;soul c at 2 face 5 kind 1;";
        Retouched x = Check.told(kinds + "paints look+kind;");
        CHECK.due("changed(1, 0)", x.changed(1, 0), 0);
        CHECK.due("changed(1, 1)", x.changed(1, 1), 1);
        CHECK.due("changed(1, 2)", x.changed(1, 2), 169);
        CHECK.due("changed(2, 2)", x.changed(2, 2), 188);
        // In the row b a c, b and c are held at 99, and a has 50 + 20.
        CHECK.due("changed(20, 0)", x.changed(20, 0), 0);
        CHECK.due("changed(20, 2)", x.changed(20, 2), 268);
        CHECK.due("changed(0, 0)", x.changed(0, 0), -1);
        CHECK.due("changed(21, 0)", x.changed(21, 0), -1);
        CHECK.due("changed(-1, 0)", x.changed(-1, 0), -1);
        CHECK.due("changed(1, 3)", x.changed(1, 3), -1);
        CHECK.due("changed(1, -1)", x.changed(1, -1), -1);
        CHECK.due("nothing changed", x.house(0), 0);
        x.change(0, 1);
        CHECK.due("changed(1, 0) when none is greater", x.changed(1, 0), -1);
        CHECK.due("changed(1, 2) when none is greater", x.changed(1, 2), -1);
        // All pairs that part the two are alike, and (0, 2) does not: the first one is (0, 3).
        x = Check.told("terrace 4;soul a at 0 face 5 kind 1;soul b at 1 face 5 kind 1;paints look-1;");
        CHECK.due("changed(3, 0) of like ones", x.changed(3, 0), 0);
        CHECK.due("changed(3, 1) of like ones", x.changed(3, 1), 3);
        CHECK.due("changed(3, 2) of like ones", x.changed(3, 2), 100);
        // Here the later pair is the better one.
        x = Check.told("terrace 4;soul a at 0 face 5 kind 1;soul b at 2 face 5 kind 1;soul c at 3 face 5 kind 1;paints look+1;");
        CHECK.due("changed(1, 0) into the gap", x.changed(1, 0), 0);
        CHECK.due("changed(1, 1) into the gap", x.changed(1, 1), 1);
        CHECK.due("changed(1, 2) into the gap", x.changed(1, 2), 154);
        x = Check.told("terrace 3;");
        CHECK.due("changed(1, 0) of nobody", x.changed(1, 0), -1);
    }

    private static void stranger() {
        String ends = "terrace 4;soul a at 0 face 1 kind 2;soul b at 3 face 1 kind 9;";
        Retouched x = Check.told(ends + "paints look+kind;");
        CHECK.due("stranger(3, 0, 1, 0)", x.stranger(3, 0, 1, 0), 2);
        CHECK.due("stranger(3, 0, 1, 1)", x.stranger(3, 0, 1, 1), 39);
        CHECK.due("stranger(3, 0, 2, 1)", x.stranger(3, 0, 2, 1), 48);
        CHECK.due("stranger(0, 9, 20, 1)", x.stranger(0, 9, 20, 1), 99);
        CHECK.due("stranger(9, 9, 20, 0) of like ones", x.stranger(9, 9, 20, 0), 1);
        CHECK.due("stranger(9, 0, 1, 1)", x.stranger(9, 0, 1, 1), 99);
        CHECK.due("stranger(10, 0, 1, 0)", x.stranger(10, 0, 1, 0), -1);
        CHECK.due("stranger(-1, 0, 1, 0)", x.stranger(-1, 0, 1, 0), -1);
        CHECK.due("stranger(0, 10, 1, 0)", x.stranger(0, 10, 1, 0), -1);
        CHECK.due("stranger(0, -1, 1, 0)", x.stranger(0, -1, 1, 0), -1);
        CHECK.due("stranger(0, 0, 0, 0)", x.stranger(0, 0, 0, 0), -1);
        CHECK.due("stranger(0, 0, 21, 0)", x.stranger(0, 0, 21, 0), -1);
        CHECK.due("stranger(0, 0, 1, 2)", x.stranger(0, 0, 1, 2), -1);
        CHECK.due("stranger(0, 0, 1, -1)", x.stranger(0, 0, 1, -1), -1);
        CHECK.due("he does not stay", x.has(1), 2);
        x = Check.told(ends + "paints look;");
        CHECK.due("stranger(3, 0, 5, 0) of like ones", x.stranger(3, 0, 5, 0), 1);
        CHECK.due("stranger(0, 0, 5, 1) of a curtain", x.stranger(0, 0, 5, 1), 0);
        // He thinks 5 of the others, and they of him.
        x = Check.told("terrace 2;soul a at 0 face 1 kind 2;paints thinks*10;");
        CHECK.due("stranger(1, 0, 1, 1) thought of", x.stranger(1, 0, 1, 1), 50);
        // a gains what he thinks of a, then thinks as much less of him, and he is painted as a thinks.
        x = Check.told("terrace 2;soul a at 0 face 1 kind 2;paints look+thinks;minds gain-2;");
        CHECK.due("stranger(1, 0, 1, 1) who thinks", x.stranger(1, 0, 1, 1), 13);
        x = Check.told("terrace 2;soul a at 0 face 1 kind 2;soul b at 1 face 1 kind 2;");
        CHECK.due("stranger() without an empty house", x.stranger(1, 1, 1, 0), -1);
        StringBuilder eight = new StringBuilder("terrace 9;");
        for (int i = 0; i < 8; i++) {
            eight.append("soul ").append((char) ('a' + i)).append(" at ").append(i).append(" face 1 kind 1;");
        }
        x = Check.told(eight.toString());
        CHECK.due("stranger() beside eight", x.stranger(1, 1, 1, 0), -1);
        CHECK.due("rest(1) of eight", x.rest(1), 0);
        x = Check.told("terrace 3;");
        CHECK.due("stranger() into an empty terrace", x.stranger(4, 1, 3, 0), 0);
        CHECK.due("stranger() into an empty terrace", x.stranger(4, 1, 3, 1), 40);
    }

    private static void parted() {
        String row = "terrace 6;soul a at 0 face 1 kind 1;soul b at 1 face 1 kind 2;soul c at 2 face 1 kind 3;"
                + "soul d at 3 face 1 kind 4;soul e at 5 face 1 kind 5;";
        CHECK.due("parted() of no feud", Check.told(row + "feud not all;").parted(), 0);
        // Three feuds in a row of four: two must go; of b and c, b and d, a and c the least bits are a and c.
        CHECK.due("parted() of all feuds", Check.told(row + "feud all;").parted(), 5);
        CHECK.due("parted() of b and c", Check.told(row + "feud kind=2;").parted(), 2);
        CHECK.due("parted() of a b c", Check.told(row + "feud kind<3;").parted(), 2);
        CHECK.due("parted() of a b and c d", Check.told(row + "feud kind=1 or kind=3;").parted(), 5);
        Retouched x = Check.told(row + "feud all;");
        x.change(0, 2);
        x.change(3, 4);
        // c b a, and d e: b with d.
        CHECK.due("parted() behind changes", x.parted(), 10);
        CHECK.due("nobody moves out", x.has(1), 5);
        CHECK.due("parted() of nobody", Check.told("terrace 3;feud all;").parted(), 0);
        CHECK.due("parted() without a terrace", new Retouched().parted(), 0);
    }

    private static void rest() {
        // Who paints is thought of as 9 and pays it back with 9 less; who spares is thought of as 0.
        String angry = "terrace 2;soul a at 0 face 5 kind 0;soul b at 1 face 5 kind 0;thinks a of b 0;thinks b of a 0;"
                + "paints look-thinks;minds 9;";
        Retouched x = Check.told(angry);
        CHECK.due("rest(1)", x.rest(1), 1);
        CHECK.due("rest(2)", x.rest(2), 1);
        CHECK.due("rest(20)", x.rest(20), 1);
        CHECK.due("rest(0)", x.rest(0), -1);
        CHECK.due("rest(21)", x.rest(21), -1);
        CHECK.due("rest(-1)", x.rest(-1), -1);
        CHECK.due("nobody spares by that", x.has(4), 0);
        // Who spares now does not count: sets are of all who would.
        x.spare(1, 1);
        CHECK.due("rest(2) while one spares", x.rest(2), 1);
        CHECK.due("he spares still", x.person(1, 4), 1);
        CHECK.due("rest(1) of nobody", Check.told("terrace 2;").rest(1), 0);
        CHECK.due("rest(1) without a terrace", new Retouched().rest(1), -1);
        x = Check.told(angry.replace("terrace 2", "terrace 3").replace("paints", "soul c at 2 face 9 kind 1;paints"));
        CHECK.due("rest(2) of three", x.rest(2), 2);
    }

    /** The same by spare() and later(), set by set. */
    private static void restByActs() {
        String[] texts = {
            "terrace 3;soul a at 0 face 7 kind 0;soul b at 1 face 9 kind 0;soul c at 2 face 7 kind 0;thinks a of b 0;"
                    + "thinks a of c 6;thinks b of a 3;thinks b of c 9;thinks c of a 3;thinks c of b 4;paints look-thinks*2;minds 9;",
            "terrace 3;soul a at 0 face 4 kind 0;soul b at 1 face 0 kind 0;soul c at 2 face 5 kind 0;thinks a of b 8;"
                    + "thinks a of c 7;thinks b of a 5;thinks c of a 1;thinks c of b 2;paints 9*thinks;minds 0-gain;",
            "terrace 4;soul a at 3 face 5 kind 0;soul b at 1 face 7 kind 0;soul c at 2 face 8 kind 0;thinks a of b 9;"
                    + "thinks a of c 2;thinks b of a 7;thinks b of c 8;thinks c of a 7;thinks c of b 1;paints 9*thinks;minds 5-gain;"};
        for (String text : texts) {
            Retouched x = Check.told(text);
            for (int n = 1; n <= 3; n++) {
                int[][] looks = new int[8][3];
                for (int set = 0; set < 8; set++) {
                    for (int p = 0; p < 3; p++) {
                        x.spare(p, set >> p & 1);
                    }
                    for (int p = 0; p < 3; p++) {
                        looks[set][p] = x.later(p, n);
                    }
                }
                CHECK.due("rest(" + n + ") of " + text, x.rest(n), first(looks));
                x.right(0);
                x.years(1);
            }
        }
    }

    private static int first(int[][] looks) {
        for (int count = 0; count <= 3; count++) {
            for (int set = 0; set < 8; set++) {
                boolean rests = Integer.bitCount(set) == count;
                for (int p = 0; p < 3; p++) {
                    rests = rests && looks[set ^ 1 << p][p] <= looks[set][p];
                }
                if (rests) {
                    return set;
                }
            }
        }
        return -1;
    }

    private static void nothingStays() {
        Retouched x = Check.told(PAIR);
        x.seed(5);
        x.later(0, 60);
        x.curtain(0);
        x.changed(20, 0);
        x.stranger(1, 1, 20, 0);
        x.rest(20);
        x.thoughts(0, 1);
        x.tells(0, 1, 0);
        int[] due = {4, 2, 0, 0, 0, 0, 130, 0, 0, 0};
        for (int what = 0; what < due.length; what++) {
            CHECK.due("has(" + what + ") behind a look ahead", x.has(what), due[what]);
        }
        CHECK.due("thinks(1, 0)", x.thinks(1, 0), 7);
    }
}
