/**
 * The edges of term III and of promises 14 to 24, sentence by sentence: the last that is taken and the first that is
 * not, nothing there yet, all places taken, like ones. What can't be answered and stays is in RefusalTest, too.
 */
public final class AheadEdgesTest {
    private static final Check CHECK = new Check("AheadEdgesTest");
    private static final int LEAST = Integer.MIN_VALUE;
    private static final int MOST = Integer.MAX_VALUE;

    public static void main(String[] args) {
        ahead();
        aheadWithoutDraws();
        curtain();
        changedYears();
        changedIfGreater();
        changedOfLikeOnes();
        strangerHimself();
        strangerYears();
        strangerHouses();
        strangerOfLikeOnes();
        parted();
        partedOfLikeOnes();
        restYears();
        restOfLikeOnes();
        restOfAll();
        rows();
        latestRows();
        thoughts();
        thoughtsBeyond();
        faces();
        tellingYears();
        tellingOfLikeOnes();
        tellsNone();
        CHECK.finish();
    }

    private static Retouched inYear(String text, int year) {
        Retouched x = Check.told(text);
        Check.toYear(x, year);
        return x;
    }

    /** "AHEAD are YEARS .. (60 at most, not beyond YEAR 999)": n of later(), mind() (0 .. 60). */
    private static void ahead() {
        String text = Check.row(2, 2, 9, 1) + "paints look-kind;minds max(0,year-940)/10;";
        for (int year : new int[] {0, 900, 938, 939, 940, 998, 999}) {
            Retouched x = inYear(text, year);
            for (int n : new int[] {LEAST, -1, 0, 1, 2, 59, 60, 61, MOST - 999, MOST}) {
                boolean canBe = n >= 0 && n <= 60 && year + n <= 999;
                CHECK.due("later(0, " + n + ") in " + year, x.later(0, n), canBe ? 90 - n : -1);
                CHECK.due("later(1, " + n + ") in " + year, x.later(1, n), canBe ? 90 - n : -1);
                int thought = n == 0 ? 5 : Math.max(0, year + n - 1 - 940) / 10;
                CHECK.due("mind(0, 1, " + n + ") in " + year, x.mind(0, 1, n), canBe ? thought : -1);
                CHECK.due("mind(0, 0, " + n + ") in " + year, x.mind(0, 0, n), -1);
                CHECK.due("mind(0, 2, " + n + ") in " + year, x.mind(0, 2, n), -1);
                CHECK.due("mind(2, 0, " + n + ") in " + year, x.mind(2, 0, n), -1);
                CHECK.due("later(2, " + n + ") in " + year, x.later(2, n), -1);
                CHECK.due("later(-1, " + n + ") in " + year, x.later(-1, n), -1);
            }
        }
    }

    /** "YEARS as they come from now on without DRAWS", with those who SPARE now. */
    private static void aheadWithoutDraws() {
        Retouched x = Check.told(Check.row(2, 2, 9, 1) + "paints look-kind;slip 100;");
        CHECK.due("later(0, 60)", x.later(0, 60), 30);
        x.spare(1, 1);
        CHECK.due("later(0, 60) of one who is spared", x.later(0, 60), 90);
        CHECK.due("later(1, 60) of the other one", x.later(1, 60), 30);
        Retouched y = Check.told(Check.row(2, 2, 9, 1) + "paints look-kind;slip 100;");
        x.spare(1, 0);
        x.chance(1);
        y.chance(1);
        CHECK.due("no draw is made ahead", x.person(0, 1) * 100 + x.person(1, 1), y.person(0, 1) * 100 + y.person(1, 1));
    }

    /** "Behind how many YEARS AHEAD (0: now) a PORTRAIT is a CURTAIN first; NONE when it is not". */
    private static void curtain() {
        for (int year : new int[] {0, 900, 938, 939, 940, 990, 998, 999}) {
            for (int n : new int[] {1, 2, 9, 10, 58, 59, 60, 61}) {
                // It is 0 from the YEAR on whose painting ends n years ahead.
                int from = year + n - 1;
                Retouched x = inYear(Check.row(2, 2, 9, 1) + "paints 99*max(0,min(1," + from + "-year));", year);
                boolean comes = n <= 60 && year + n <= 999;
                CHECK.due("curtain(0) " + n + " years ahead of " + year, x.curtain(0), comes ? n : -1);
                CHECK.due("curtain(1) " + n + " years ahead of " + year, x.curtain(1), comes ? n : -1);
            }
            Retouched x = inYear(Check.row(2, 2, 0, 1) + "paints 1;", year);
            CHECK.due("curtain(0) now, in " + year, x.curtain(0), 0);
            x = inYear(Check.row(2, 2, 1, 1) + "paints look;", year);
            CHECK.due("curtain(0) never, in " + year, x.curtain(0), -1);
            CHECK.due("curtain(2) in " + year, x.curtain(2), -1);
            CHECK.due("curtain(-1) in " + year, x.curtain(-1), -1);
        }
        // First: it is one more often behind that.
        Retouched x = Check.told(Check.row(2, 2, 5, 1) + "paints max(0,3-year)+max(0,year-7)*(10-year);");
        CHECK.due("curtain(0) first", x.curtain(0), 4);
        // Behind a year, not between its strokes.
        x = Check.told(Check.row(3, 3, 5, 1) + "paints side;");
        CHECK.due("curtain(1) between strokes", x.curtain(1), -1);
        CHECK.due("curtain(2) at the end", x.curtain(2), 1);
    }

    /** "CHANGED, n YEARS AHEAD (1 .. 20)": n on both sides, near the last YEAR, and what (0, 1, 2). */
    private static void changedYears() {
        String text = Check.row(3, 2, 1, 1) + "paints look-1;";
        for (int year : new int[] {0, 978, 979, 980, 998, 999}) {
            Retouched x = inYear(text, year);
            for (int n : new int[] {LEAST, -1, 0, 1, 2, 9, 19, 20, 21, 60, MOST}) {
                boolean canBe = n >= 1 && n <= 20 && year + n <= 999;
                CHECK.due("changed(" + n + ", 0) in " + year, x.changed(n, 0), canBe ? 1 : -1);
                CHECK.due("changed(" + n + ", 1) in " + year, x.changed(n, 1), canBe ? 2 : -1);
                CHECK.due("changed(" + n + ", 2) in " + year, x.changed(n, 2), canBe ? 20 : -1);
                CHECK.due("changed(" + n + ", 3) in " + year, x.changed(n, 3), -1);
                CHECK.due("changed(" + n + ", -1) in " + year, x.changed(n, -1), -1);
            }
        }
        Retouched x = new Retouched();
        for (int what = -1; what <= 3; what++) {
            CHECK.due("changed(1, " + what + ") without a terrace", x.changed(1, what), -1);
        }
    }

    /** "if greater than without": as great is not greater. */
    private static void changedIfGreater() {
        for (String rule : new String[] {"", "paints look;", "paints 50;", "paints look+1;", "paints 0;"}) {
            Retouched x = Check.told(Check.row(2, 2, 5, 1) + rule);
            for (int what = 0; what <= 2; what++) {
                CHECK.due("changed(5, " + what + ") of " + rule, x.changed(5, what), -1);
            }
        }
        // By one more than without it is.
        Retouched x = Check.told("terrace 2;soul a at 0 face 5 kind 1;soul b at 1 face 5 kind 2;paints look+side*(kind-1);");
        CHECK.due("changed(1, 2) by nothing", x.changed(1, 2), -1);
        x.change(0, 1);
        CHECK.due("changed(1, 2) by one", x.changed(1, 2), 101);
        CHECK.due("changed(1, 0) by one", x.changed(1, 0), 0);
        CHECK.due("changed(1, 1) by one", x.changed(1, 1), 1);
        // What was found by one call is nothing to the next.
        CHECK.due("stranger(1, 1, 1, 0) without an empty house", x.stranger(1, 1, 1, 0), -1);
        CHECK.due("stranger(1, 1, 1, 1) without an empty house", x.stranger(1, 1, 1, 1), -1);
        x.change(0, 1);
        CHECK.due("changed(1, 1) by nothing once more", x.changed(1, 1), -1);
        for (int people = 0; people <= 1; people++) {
            CHECK.due("changed(1, 0) of " + people, Check.told(Check.row(9, people, 5, 1) + "paints 0;").changed(1, 0), -1);
        }
    }

    /** "two HOUSES, the first of less number, .. of like ones the first pair". */
    private static void changedOfLikeOnes() {
        // a and b at 0 and 1 must be parted: 0 and 2 leaves them side by side, 0 and 3 is the first that does.
        for (int houses = 3; houses <= 9; houses++) {
            Retouched x = Check.told(Check.row(houses, 2, 5, 1) + "paints look-1;");
            CHECK.due("changed(1, 0) of " + houses, x.changed(1, 0), houses == 3 ? 1 : 0);
            CHECK.due("changed(1, 1) of " + houses, x.changed(1, 1), houses == 3 ? 2 : 3);
            CHECK.due("changed(1, 2) of " + houses, x.changed(1, 2), 100);
        }
        // b must not live behind c: the first pair by which he does not is that of the first and the last house.
        Retouched x = Check.told("terrace 9;soul a at 0 face 5 kind 0;soul b at 7 face 5 kind 9;soul c at 8 face 5 kind 0;paints look-side*kind;");
        CHECK.due("changed(1, 0) of none greater", x.changed(1, 0), -1);
        x.change(7, 8);
        CHECK.due("changed(1, 0) of the ends", x.changed(1, 0), 0);
        CHECK.due("changed(1, 1) of the ends", x.changed(1, 1), 8);
        CHECK.due("changed(1, 2) of the ends", x.changed(1, 2), 150);
        // A later pair that is greater wins over the first one that is great.
        x = Check.told("terrace 3;soul a at 0 face 5 kind 0;soul b at 1 face 5 kind 3;soul c at 2 face 5 kind 9;paints look-kind;");
        // a b c: a -3, b -0-9, c -3: 135. b a c: -0 -3-9 -0: 138. c b a: as at first. a c b: -9 -0-3 -9: 129.
        CHECK.due("changed(1, 0) of three", x.changed(1, 0), 0);
        CHECK.due("changed(1, 1) of three", x.changed(1, 1), 1);
        CHECK.due("changed(1, 2) of three", x.changed(1, 2), 138);
        x = Check.told("terrace 3;soul a at 0 face 5 kind 9;soul b at 1 face 5 kind 3;soul c at 2 face 5 kind 0;paints look-kind;");
        // a b c: -3 -9 -3: 135. b a c: -9 -3 -9: 129. a c b: -0 -9-3 -0: 138.
        CHECK.due("changed(1, 0) of the last pair", x.changed(1, 0), 1);
        CHECK.due("changed(1, 1) of the last pair", x.changed(1, 1), 2);
        CHECK.due("changed(1, 2) of the last pair", x.changed(1, 2), 138);
    }

    /** "A STRANGER (0 .. 9 each)": his face and his kind, on both sides; "(PORTRAIT, thoughts as if told so, 5)". */
    private static void strangerHimself() {
        Retouched x = Check.told("terrace 2;soul a at 0 face 1 kind 2;");
        for (int n : new int[] {LEAST, -1, 0, 1, 8, 9, 10, MOST}) {
            boolean canBe = n >= 0 && n <= 9;
            CHECK.due("stranger(" + n + ", 0, 1, 0)", x.stranger(n, 0, 1, 0), canBe ? 1 : -1);
            CHECK.due("stranger(" + n + ", 0, 1, 1)", x.stranger(n, 0, 1, 1), canBe ? 10 * n : -1);
            CHECK.due("stranger(0, " + n + ", 1, 0)", x.stranger(0, n, 1, 0), canBe ? 1 : -1);
            CHECK.due("stranger(0, " + n + ", 1, 1)", x.stranger(0, n, 1, 1), canBe ? 0 : -1);
        }
        for (int what : new int[] {LEAST, -1, 2, MOST}) {
            CHECK.due("stranger(1, 1, 1, " + what + ")", x.stranger(1, 1, 1, what), -1);
        }
        // They think 5 of him, and he thinks 5 of them: that is what he gains, and what a gains of him.
        x = Check.told("terrace 2;soul a at 0 face 1 kind 2;paints look+thinks;minds gain*2;");
        // a sits first: 10 + 5, and thinks 10, so 9, of him; he is painted with 9 more.
        CHECK.due("stranger(3, 0, 1, 1)", x.stranger(3, 0, 1, 1), 39);
        // He lives at 0 and sits first: 30 + 5.
        x = Check.told("terrace 2;soul a at 1 face 1 kind 2;paints look+thinks;minds gain*2;");
        CHECK.due("stranger(3, 0, 1, 1)", x.stranger(3, 0, 1, 1), 35);
        // He paints, by his kind: a gains 7 by him, and gives him as much back.
        x = Check.told("terrace 2;soul a at 0 face 1 kind 0;paints look+kind+thinks-5;minds gain;");
        CHECK.due("stranger(3, 7, 1, 1)", x.stranger(3, 7, 1, 1), 32);
        // He does so in a later year, too, and where another one of his number spared in a terrace before.
        x.years(1);
        CHECK.due("stranger(3, 7, 1, 1) a year later", x.stranger(3, 7, 1, 1), 32);
        x = Check.told(Check.row(2, 2, 1, 1));
        x.spare(1, 1);
        Check.terrace(x, "terrace 2;soul a at 0 face 1 kind 0;paints look+kind+thinks-5;minds gain;");
        CHECK.due("stranger(3, 7, 1, 1) behind one who spared", x.stranger(3, 7, 1, 1), 32);
    }

    /** "n YEARS AHEAD (1 .. 20)", near the last YEAR, too. */
    private static void strangerYears() {
        String text = "terrace 2;soul a at 0 face 1 kind 2;paints look+kind;";
        for (int year : new int[] {0, 978, 979, 980, 998, 999}) {
            Retouched x = inYear(text, year);
            for (int n : new int[] {LEAST, -1, 0, 1, 2, 19, 20, 21, 60, MOST}) {
                boolean canBe = n >= 1 && n <= 20 && year + n <= 999;
                CHECK.due("stranger(1, 1, " + n + ", 0) in " + year, x.stranger(1, 1, n, 0), canBe ? 1 : -1);
                CHECK.due("stranger(1, 1, " + n + ", 1) in " + year, x.stranger(1, 1, n, 1), canBe ? 10 + 2 * n : -1);
            }
        }
        for (int what = -1; what <= 2; what++) {
            CHECK.due("stranger(1, 1, 1, " + what + ") without a terrace", new Retouched().stranger(1, 1, 1, what), -1);
        }
    }

    /** "NONE when none is empty, 8 are there": each number of houses and of people. */
    private static void strangerHouses() {
        for (int houses = 2; houses <= 9; houses++) {
            for (int people = 0; people <= Math.min(8, houses); people++) {
                Retouched x = Check.told(Check.row(houses, people, 1, 1));
                boolean canBe = people < houses && people < 8;
                CHECK.due("stranger(4, 4, 1, 0) of " + people + " in " + houses, x.stranger(4, 4, 1, 0), canBe ? people : -1);
                CHECK.due("stranger(4, 4, 1, 1) of " + people + " in " + houses, x.stranger(4, 4, 1, 1), canBe ? 40 : -1);
                CHECK.due("has(1)", x.has(1), people);
            }
        }
    }

    /** "the empty HOUSE by which his PORTRAIT is greatest ..; of like ones the first (he is the last by number)". */
    private static void strangerOfLikeOnes() {
        // Beside b he gains 9, beside a 2, between the two 11, else nothing.
        String ends = "terrace 9;soul b at 8 face 1 kind 9;soul a at 0 face 1 kind 2;paints look+kind;";
        Retouched x = Check.told(ends);
        CHECK.due("stranger(3, 0, 1, 0)", x.stranger(3, 0, 1, 0), 7);
        CHECK.due("stranger(3, 0, 1, 1)", x.stranger(3, 0, 1, 1), 39);
        x.change(8, 2);
        CHECK.due("stranger(3, 0, 1, 0) between the two", x.stranger(3, 0, 1, 0), 1);
        CHECK.due("stranger(3, 0, 1, 1) between the two", x.stranger(3, 0, 1, 1), 41);
        // Held at 99 all of them are alike: the first empty one beside somebody.
        CHECK.due("stranger(9, 0, 20, 0) of like ones", x.stranger(9, 0, 20, 0), 1);
        x = Check.told("terrace 9;soul a at 0 face 1 kind 2;paints look-kind;");
        CHECK.due("stranger(9, 0, 1, 0) away from him", x.stranger(9, 0, 1, 0), 2);
        CHECK.due("stranger(9, 0, 1, 1) away from him", x.stranger(9, 0, 1, 1), 90);
        // A portrait of 0 is the greatest there is, where all are 0.
        x = Check.told("terrace 3;soul a at 1 face 1 kind 2;paints 0;");
        CHECK.due("stranger(9, 0, 1, 0) of curtains", x.stranger(9, 0, 1, 0), 0);
        CHECK.due("stranger(9, 0, 1, 1) of curtains", x.stranger(9, 0, 1, 1), 0);
    }

    /** "PARTED are the fewest PEOPLE to move out, by which no FEUD has both there": nobody, one, two, up to eight in a row. */
    private static void parted() {
        int[] due = {0, 0, 1, 2, 5, 10, 21, 42, 85};
        for (int people = 0; people <= 8; people++) {
            CHECK.due("parted() of " + people, Check.told(Check.row(9, people, 1, 1) + "feud all;").parted(), due[people]);
            CHECK.due("parted() without feuds of " + people, Check.told(Check.row(9, people, 1, 1) + "feud not all;").parted(), 0);
        }
        CHECK.due("parted() without a terrace", new Retouched().parted(), 0);
        // Apart from one another nobody is at feud.
        Retouched x = Check.told("terrace 9;soul a at 0 face 1 kind 1;soul b at 2 face 1 kind 1;soul c at 4 face 1 kind 1;feud all;");
        CHECK.due("parted() of three apart", x.parted(), 0);
        x.change(2, 1);
        CHECK.due("parted() of two side by side", x.parted(), 1);
        x = inYear(Check.row(9, 8, 1, 1) + "feud year=999;", 998);
        CHECK.due("parted() in 998", x.parted(), 0);
        x.years(1);
        CHECK.due("parted() in 999", x.parted(), 85);
    }

    /** "of like ones the least bits": by the numbers of the PEOPLE, not by their HOUSES. */
    private static void partedOfLikeOnes() {
        Retouched x = Check.told("terrace 4;soul d at 3 face 1 kind 1;soul c at 2 face 1 kind 1;soul b at 1 face 1 kind 1;soul a at 0 face 1 kind 1;feud all;");
        // By houses a b c d are 3 2 1 0; of b c, a c, b d the least bits are those of d and b: 1 and 4.
        CHECK.due("parted() from right to left", x.parted(), 5);
        x = Check.told("terrace 2;soul b at 1 face 1 kind 1;soul a at 0 face 1 kind 1;feud all;");
        CHECK.due("parted() of two", x.parted(), 1);
        // One who has two feuds goes rather than two who have one each, though his bit is the highest.
        x = Check.told("terrace 3;soul a at 0 face 1 kind 1;soul b at 2 face 1 kind 1;soul c at 1 face 1 kind 1;feud all;");
        CHECK.due("parted() of the one between", x.parted(), 4);
    }

    /** "At REST, n YEARS AHEAD (1 .. 20)": n on both sides, near the last YEAR, too. */
    private static void restYears() {
        String text = "terrace 2;soul a at 0 face 9 kind 0;soul b at 1 face 9 kind 0;thinks a of b 0;thinks b of a 0;"
                + "paints look-thinks/5;minds 9;";
        for (int year : new int[] {0, 978, 979, 980, 998, 999}) {
            Retouched x = inYear(text, year);
            for (int n : new int[] {LEAST, -1, 0, 1, 2, 19, 20, 21, 60, MOST}) {
                boolean canBe = n >= 1 && n <= 20 && year + n <= 999;
                CHECK.due("rest(" + n + ") in " + year, x.rest(n), canBe ? 1 : -1);
            }
        }
        CHECK.due("rest(1) without a terrace", new Retouched().rest(1), -1);
        CHECK.due("rest(20) without a terrace", new Retouched().rest(20), -1);
    }

    /** "of the fewest, of like ones the least bits"; "a greater PORTRAIT": as great is not greater. */
    private static void restOfLikeOnes() {
        for (int people = 0; people <= 8; people++) {
            CHECK.due("rest(1) where it is all one, of " + people, Check.told(Check.row(9, people, 5, 1)).rest(1), 0);
            CHECK.due("rest(20) where it is all one, of " + people, Check.told(Check.row(9, people, 5, 1)).rest(20), 0);
        }
        // Either of the two may spare: of like ones the one of the least bits, whichever house is his.
        String angry = "thinks a of b 0;thinks b of a 0;paints look-thinks;minds 9;";
        CHECK.due("rest(2) of a b", Check.told("terrace 2;soul a at 0 face 5 kind 0;soul b at 1 face 5 kind 0;" + angry).rest(2), 1);
        CHECK.due("rest(2) of b a", Check.told("terrace 2;soul a at 1 face 5 kind 0;soul b at 0 face 5 kind 0;" + angry).rest(2), 1);
        // Two pairs apart: one of each, the least bits of the fewest.
        Retouched x = Check.told("terrace 5;soul a at 0 face 5 kind 0;soul b at 1 face 5 kind 0;soul c at 3 face 5 kind 0;soul d at 4 face 5 kind 0;"
                + "thinks a of b 0;thinks b of a 0;thinks c of d 0;thinks d of c 0;paints look-thinks;minds 9;");
        CHECK.due("rest(2) of two pairs", x.rest(2), 5);
        // The one between the two others spares, or both of these: the fewer, though the bits of the two are less.
        x = Check.told("terrace 3;soul a at 0 face 5 kind 0;soul b at 2 face 5 kind 0;soul c at 1 face 5 kind 0;"
                + "thinks a of c 0;thinks c of a 0;thinks b of c 0;thinks c of b 0;paints look-thinks;minds 9;");
        CHECK.due("rest(2) of the one between", x.rest(2), 4);
    }

    /** "a set of PEOPLE who SPARE now (the others paint)": who spares already does not matter. */
    private static void restOfAll() {
        String text = "terrace 3;soul a at 0 face 5 kind 0;soul b at 1 face 5 kind 0;soul c at 2 face 5 kind 0;"
                + "thinks a of b 0;thinks b of a 0;thinks b of c 0;thinks c of b 0;paints look-thinks;minds 9;";
        int due = Check.told(text).rest(3);
        for (int set = 0; set < 8; set++) {
            Retouched x = Check.told(text);
            for (int p = 0; p < 3; p++) {
                if ((set >> p & 1) == 1) {
                    x.spare(p, 1);
                }
            }
            CHECK.due("rest(3) while the set " + set + " spares", x.rest(3), due);
            CHECK.due("has(4) stays", x.has(4), Integer.bitCount(set));
        }
    }

    /** "1 to 16 rows of three bytes"; "YEARS AHEAD (0 .. 30), PERSON, PORTRAIT"; "(PORTRAITS above 99, too)". */
    private static void rows() {
        for (int size = 0; size <= 60; size++) {
            Retouched x = Check.told(Check.row(2, 2, 1, 1));
            boolean canBe = size >= 3 && size <= 48 && size % 3 == 0;
            CHECK.due("see() of " + size + " bytes", Check.see(x, new int[size]), canBe ? size / 3 : -1);
            CHECK.due("has(8) of " + size + " bytes", x.has(8), canBe ? size / 3 : 0);
            CHECK.due("status(1) of " + size + " bytes", x.status(1), canBe ? 0 : 1);
            CHECK.due("the tape goes", x.end(1), false);
        }
        Retouched x = Check.told(Check.row(9, 8, 1, 1));
        for (int b = 0; b < 256; b++) {
            x = b % 50 == 0 ? Check.told(Check.row(9, 8, 1, 1)) : x;
            CHECK.due("see() of the year " + b, Check.see(x, b, 0, 0), b <= 30 ? 1 : -1);
            CHECK.due("see() of the person " + b, Check.see(x, 0, b, 0), b <= 7 ? 1 : -1);
            CHECK.due("see() of the portrait " + b, Check.see(x, 0, 0, b), b <= 99 ? 1 : -1);
        }
        // Each row of the sixteen is looked at, and counts.
        for (int row = 0; row < 16; row++) {
            int[] bytes = new int[48];
            for (int i = 0; i < 16; i++) {
                bytes[3 * i + 2] = 10;
            }
            x = Check.told(Check.row(2, 2, 1, 1));
            CHECK.due("see() of sixteen", Check.see(x, bytes), 16);
            CHECK.due("thoughts(0, 1) of sixteen", x.thoughts(0, 1), 1023);
            bytes[3 * row + 2] = 11;
            CHECK.due("see() of sixteen, one not so", Check.see(x, bytes), 16);
            CHECK.due("thoughts(0, 1) of one not so", x.thoughts(0, 1), 0);
            CHECK.due("faces(1) of one not so", x.faces(1), 0);
            bytes[3 * row + 1] = 2;
            CHECK.due("see() of sixteen, one of nobody", Check.see(x, bytes), -1);
            CHECK.due("has(8) stays", x.has(8), 16);
        }
        // Of nobody nothing can be seen.
        CHECK.due("see() of a terrace of nobody", Check.see(Check.told("terrace 2;"), 0, 0, 0), -1);
        CHECK.due("see() without a terrace", Check.see(new Retouched(), 0, 0, 0), -1);
    }

    /** "The tape (it goes) tells what is SEEN": the latest rows alone; they stay behind refused ones, and behind acts. */
    private static void latestRows() {
        Retouched x = Check.told(Check.row(2, 2, 3, 1) + "paints look+thinks;");
        Check.see(x, 1, 0, 31, 1, 0, 32);
        CHECK.due("thoughts(1, 0) of two that can't both be", x.thoughts(1, 0), 0);
        Check.see(x, 1, 0, 32);
        CHECK.due("has(8) of fewer rows", x.has(8), 1);
        CHECK.due("thoughts(1, 0) of the latest", x.thoughts(1, 0), 1 << 2);
        Check.see(x, 1, 0, 100);
        CHECK.due("thoughts(1, 0) behind refused ones", x.thoughts(1, 0), 1 << 2);
        x.years(1);
        // a is 35 now, and 32 a year ahead can't be.
        CHECK.due("thoughts(1, 0) a year on", x.thoughts(1, 0), 0);
        Check.see(x, 1, 0, 42);
        CHECK.due("thoughts(1, 0) of a year ahead of now", x.thoughts(1, 0), 1 << 7);
        Check.terrace(x, Check.row(2, 2, 3, 1));
        CHECK.due("has(8) behind terrace()", x.has(8), 0);
        CHECK.due("thoughts(1, 0) behind terrace()", x.thoughts(1, 0), 1023);
    }

    /** "THOUGHTS (0 .. 9) that a told PERSON can have of a told one now, so that all is so"; "(all, if nothing is)". */
    private static void thoughts() {
        Retouched x = Check.told(Check.row(3, 3, 3, 1) + "paints look+thinks;");
        for (int p = -1; p <= 3; p++) {
            for (int of = -1; of <= 3; of++) {
                boolean areTwo = p >= 0 && p < 3 && of >= 0 && of < 3 && p != of;
                CHECK.due("thoughts(" + p + ", " + of + ") of nothing seen", x.thoughts(p, of), areTwo ? 1023 : -1);
            }
        }
        // a is painted by b alone: 30 and b's thought.
        for (int look = 28; look <= 42; look++) {
            Check.see(x, 1, 0, look);
            boolean canBe = look >= 30 && look <= 39;
            CHECK.due("thoughts(1, 0) by " + look, x.thoughts(1, 0), canBe ? 1 << look - 30 : 0);
            CHECK.due("thoughts(0, 1) by " + look, x.thoughts(0, 1), look == 35 ? 1023 : 0);
        }
        x = Check.told(Check.row(2, 2, 3, 1) + "paints look+thinks;");
        int[] last = {0, 0, 0};
        for (int thought = 0; thought <= 9; thought++) {
            last[0] = 30;
            last[2] = Math.min(99, 30 + 30 * thought);
            Check.see(x, last);
            CHECK.due("thoughts(1, 0) thirty years ahead by " + thought, x.thoughts(1, 0), thought < 3 ? 1 << thought : 1016);
        }
    }

    /** "YEARS beyond 999 are by none": the last row that is, and the first that is not. */
    private static void thoughtsBeyond() {
        for (int year : new int[] {968, 969, 970, 998, 999}) {
            Retouched x = inYear(Check.row(2, 2, 3, 1), year);
            for (int n : new int[] {0, 1, 2, 29, 30}) {
                boolean comes = year + n <= 999;
                CHECK.due("see()", Check.see(x, n, 0, 30), 1);
                CHECK.due("thoughts(1, 0) of " + (year + n), x.thoughts(1, 0), comes ? 1023 : 0);
                CHECK.due("faces(0) of " + (year + n), x.faces(0), comes ? 1023 : 0);
                CHECK.due("tells(1, 0, 1) of " + (year + n), x.tells(1, 0, 1), comes && year < 999 ? 10 : -1);
            }
            Check.see(x, 0, 0, 30, 30, 1, 30, 0, 1, 30);
            CHECK.due("thoughts(1, 0) of one row beyond", x.thoughts(1, 0), year <= 969 ? 1023 : 0);
        }
    }

    /** "FACES (0 .. 9) that a told PERSON can truly have (his PORTRAIT stays as it is now)". */
    private static void faces() {
        Retouched x = Check.told(Check.row(2, 2, 3, 1) + "paints look+face;minds face;");
        for (int p = -1; p <= 2; p++) {
            CHECK.due("faces(" + p + ") of nothing seen", x.faces(p), p >= 0 && p < 2 ? 1023 : -1);
        }
        for (int look = 28; look <= 42; look++) {
            Check.see(x, 1, 0, look);
            boolean canBe = look >= 30 && look <= 39;
            CHECK.due("faces(0) by " + look, x.faces(0), canBe ? 1 << look - 30 : 0);
            CHECK.due("faces(1) by " + look, x.faces(1), look == 33 ? 1023 : 0);
        }
        // Now, his portrait is what it is, whatever his face.
        Check.see(x, 0, 0, 30);
        CHECK.due("faces(0) by what is now", x.faces(0), 1023);
        Check.see(x, 0, 0, 29);
        CHECK.due("faces(0) by what is not so", x.faces(0), 0);
        // b's face is what a thinks of b from the first year on, and a paints b by it in the second.
        x = Check.told(Check.row(2, 2, 3, 1) + "paints look+thinks;minds face;");
        Check.see(x, 1, 1, 39);
        CHECK.due("faces(1) by what others think of it", x.faces(1), 1 << 9);
        CHECK.due("faces(0)", x.faces(0), 0);
    }

    /** "TELLING is the YEAR AHEAD (1 .. 30)": the first, the last and beyond, near the last YEAR, too. */
    private static void tellingYears() {
        for (int year : new int[] {0, 100, 968, 969, 970, 998}) {
            for (int n : new int[] {1, 2, 29, 30, 31}) {
                // Portraits differ behind n years, and from then on.
                Retouched x = inYear(Check.row(2, 2, 3, 1) + "paints look+thinks*max(0,min(1,year-" + (year + n) + "+2));", year);
                boolean comes = n <= 30 && year + n <= 999;
                CHECK.due("tells(1, 0, 0) " + n + " ahead of " + year, x.tells(1, 0, 0), comes ? n : 1);
                CHECK.due("tells(1, 0, 1) " + n + " ahead of " + year, x.tells(1, 0, 1), comes ? 1 : 10);
                CHECK.due("tells(1, 0, 2) " + n + " ahead of " + year, x.tells(1, 0, 2), -1);
                CHECK.due("tells(1, 0, -1) " + n + " ahead of " + year, x.tells(1, 0, -1), -1);
            }
        }
    }

    /** "the most of these THOUGHTS left are fewest; of like ones the first". */
    private static void tellingOfLikeOnes() {
        for (int step = 1; step <= 10; step++) {
            Retouched x = Check.told(Check.row(2, 2, 3, 1) + "paints look+thinks/" + step + ";");
            CHECK.due("tells(1, 0, 0) by steps of " + step, x.tells(1, 0, 0), 1);
            CHECK.due("tells(1, 0, 1) by steps of " + step, x.tells(1, 0, 1), step);
        }
        // In the second year five are left at the most, in the third two, in the fourth and later as many.
        Retouched x = Check.told(Check.row(2, 2, 3, 1) + "paints 30+thinks*min(1,year)/max(1,min(year,2)*(0-3)+8);");
        CHECK.due("tells(1, 0, 0) late", x.tells(1, 0, 0), 3);
        CHECK.due("tells(1, 0, 1) late", x.tells(1, 0, 1), 2);
        // Of the thoughts that rows have left only: 0 to 4 are one in two, 8 and 9 are not told apart by twos.
        x = Check.told(Check.row(2, 2, 9, 1) + "paints look+thinks*min(1,year);");
        CHECK.due("tells(1, 0, 1) of ten", x.tells(1, 0, 1), 1);
        CHECK.due("tells(1, 0, 0) of ten", x.tells(1, 0, 0), 2);
        Check.see(x, 2, 0, 99);
        CHECK.due("thoughts(1, 0)", x.thoughts(1, 0), 1 << 9);
        CHECK.due("tells(1, 0, 0) of one", x.tells(1, 0, 0), 1);
        CHECK.due("tells(1, 0, 1) of one", x.tells(1, 0, 1), 1);
        // By the PORTRAIT of the one thought of alone, whatever others' would tell.
        x = Check.told(Check.row(3, 2, 3, 1) + "soul c at 2 face 3 kind 1;paints look+thinks;");
        CHECK.due("tells(2, 0, 1), who live apart", x.tells(2, 0, 1), 10);
        CHECK.due("tells(2, 0, 0), who live apart", x.tells(2, 0, 0), 1);
    }

    /** "NONE without a THOUGHT, when no YEAR comes, there are none such, they are one, or for others". */
    private static void tellsNone() {
        Retouched x = Check.told(Check.row(2, 2, 3, 1));
        for (int p = -1; p <= 2; p++) {
            for (int of = -1; of <= 2; of++) {
                for (int what = -1; what <= 2; what++) {
                    boolean canBe = p >= 0 && p < 2 && of >= 0 && of < 2 && p != of && what >= 0 && what <= 1;
                    CHECK.due("tells(" + p + ", " + of + ", " + what + ")", x.tells(p, of, what), !canBe ? -1 : what == 0 ? 1 : 10);
                }
            }
        }
        Check.see(x, 0, 0, 31);
        CHECK.due("tells(1, 0, 0) without a thought", x.tells(1, 0, 0), -1);
        CHECK.due("tells(1, 0, 1) without a thought", x.tells(1, 0, 1), -1);
        x = inYear(Check.row(2, 2, 3, 1), 999);
        CHECK.due("thoughts(1, 0) in 999", x.thoughts(1, 0), 1023);
        CHECK.due("tells(1, 0, 0) in 999", x.tells(1, 0, 0), -1);
        CHECK.due("tells(1, 0, 1) in 999", x.tells(1, 0, 1), -1);
        x = inYear(Check.row(2, 2, 3, 1), 998);
        CHECK.due("tells(1, 0, 0) in 998", x.tells(1, 0, 0), 1);
        CHECK.due("tells(1, 0, 1) in 998", x.tells(1, 0, 1), 10);
    }
}
