/**
 * The edges of term II and of promises 1 to 3, 6, 8 to 13 and 25 to 31, sentence by sentence: the last that is taken
 * and the first that is not, nothing there yet, all places taken. What is refused is in RefusalTest, too.
 */
public final class YearEdgesTest {
    private static final Check CHECK = new Check("YearEdgesTest");
    private static final int LEAST = Integer.MIN_VALUE;
    private static final int MOST = Integer.MAX_VALUE;

    public static void main(String[] args) {
        newObject();
        tape();
        leastCounts();
        mostCounts();
        houses();
        people();
        thoughts();
        paints();
        firstPortraits();
        curtains();
        heldPortraits();
        heldThoughts();
        strokes();
        emptyHouses();
        feuds();
        kept();
        keptStrokes();
        keptByPaintingAlone();
        change();
        right();
        spare();
        years();
        lastYear();
        draws();
        belowSlip();
        untoldSlip();
        slipsOfNobody();
        slipsAheadOfTheYear();
        undo();
        undoLeaves();
        seeds();
        CHECK.finish();
    }

    /** "No terrace, nobody." */
    private static void newObject() {
        Retouched x = new Retouched();
        for (int what = 0; what <= 9; what++) {
            CHECK.due("has(" + what + ")", x.has(what), 0);
        }
        for (int i = -1; i <= 9; i++) {
            CHECK.due("house(" + i + ")", x.house(i), -1);
            CHECK.due("feud(" + i + ")", x.feud(i), -1);
            CHECK.due("kept(" + i + ", 0)", x.kept(i, 0), -1);
            CHECK.due("octet(" + i + ")", x.octet(i), -1);
            CHECK.due("person(" + i + ", 0)", x.person(i, 0), -1);
            CHECK.due("curtain(" + i + ")", x.curtain(i), -1);
            CHECK.due("faces(" + i + ")", x.faces(i), -1);
        }
        CHECK.due("parted()", x.parted(), 0);
        CHECK.due("image()", x.image(), 3);
        CHECK.due("octet(0)", x.octet(0), 0);
        CHECK.due("octet(1)", x.octet(1), 0);
        CHECK.due("octet(2)", x.octet(2), (3 * (3 * 149 % 251) % 251));
        CHECK.due("octet(3)", x.octet(3), -1);
        for (int what = 0; what <= 5; what++) {
            CHECK.due("status(" + what + ")", x.status(what), 0);
        }
    }

    /** "of each number the highest first: how many there are; NONE, refused (0), if there would be more than 1600". */
    private static void tape() {
        Retouched x = new Retouched();
        for (int i = 1; i <= 80; i++) {
            CHECK.due("feed() " + i, x.feed(LEAST, -1, 0, 1, MOST), 20 * i);
        }
        CHECK.due("feed() 81", x.feed(0, 0, 0, 0, 0), -1);
        CHECK.due("status(0)", x.status(0), 1);
        CHECK.due("end(1600)", x.end(1600), true);
        for (int n = 1600; n >= 1581; n--) {
            CHECK.due("end(" + n + ")", x.end(n), true);
            CHECK.due("feed() behind " + n, x.feed(0, 0, 0, 0, 0), -1);
        }
        CHECK.due("status(0)", x.status(0), 21);
        CHECK.due("end(1580)", x.end(1580), true);
        CHECK.due("feed() behind 1580", x.feed(0, 0, 0, 0, 0), 1600);
        CHECK.due("end(1601)", x.end(1601), false);
        CHECK.due("end(0)", x.end(0), true);
        CHECK.due("end(0) once more", x.end(0), true);
        CHECK.due("end(1) of none", x.end(1), false);
        CHECK.due("end(-1) of none", x.end(-1), false);
        CHECK.due("status(0)", x.status(0), 24);
        // Each byte of a number by its place, the highest first; those from 128 on, too.
        Check.terrace(x, Check.row(2, 2, 1, 1));
        x.feed(0x00010a01, 0x000b00ff, 0, 0, 0);
        x.end(6);
        CHECK.due("see() of 0 1 10, 1 0 11", x.see(), 2);
        x.feed(0x000100ff, 0, 0, 0, 0);
        x.end(4);
        CHECK.due("see() of four bytes", x.see(), -1);
        x.feed(0x0001ff00, 0, 0, 0, 0);
        x.end(3);
        CHECK.due("see() of 0 1 255", x.see(), -1);
    }

    private static void counts(Retouched x, String of, int... due) {
        for (int what = 0; what < due.length; what++) {
            CHECK.due("has(" + what + ") of " + of, x.has(what), due[what]);
        }
        CHECK.due("has(10) of " + of, x.has(10), -1);
        CHECK.due("has(-1) of " + of, x.has(-1), -1);
    }

    /** "How many there are": nothing of each. */
    private static void leastCounts() {
        counts(Check.told("terrace 2;"), "nobody", 2, 0, 0, 0, 0, 0, 0, 0, 0, 0);
        counts(Check.told(Check.row(2, 1, 1, 1)), "one", 2, 1, 0, 0, 0, 0, 10, 0, 0, 0);
        counts(Check.told(Check.row(2, 2, 0, 0)), "two curtains", 2, 2, 0, 2, 0, 0, 0, 0, 0, 0);
    }

    /** "How many there are": all places of each taken. */
    private static void mostCounts() {
        Retouched x = Check.told(Check.row(9, 8, 9, 9) + "paints 99;feud all;");
        x.years(1);
        counts(x, "eight", 9, 8, 1, 0, 0, 7, 792, 0, 0, 1);
        for (int p = 0; p < 8; p++) {
            CHECK.due("spare(" + p + ", 1)", x.spare(p, 1), true);
            CHECK.due("has(4)", x.has(4), p + 1);
        }
        x.change(0, 8);
        CHECK.due("has(5) with the end moved", x.has(5), 7);
        x.change(4, 0);
        CHECK.due("has(5) with a gap between two rows of four", x.has(5), 6);
        Check.see(x, new int[48]);
        CHECK.due("has(8)", x.has(8), 16);
        for (int i = 0; i < 30; i++) {
            x.years(1);
            CHECK.due("has(9)", x.has(9), Math.min(20, 12 + i));
        }
        x = Check.told(Check.row(9, 8, 9, 9) + "paints 1-min(look,1);");
        for (int i = 1; i <= 7; i++) {
            x.years(2);
            CHECK.due("has(7) of " + 2 * i + " years", x.has(7) <= 40, true);
        }
        CHECK.due("has(7)", x.has(7), 40);
        x = Check.told(Check.row(9, 8, 9, 9) + "paints 0;");
        x.years(1);
        CHECK.due("has(3) of eight", x.has(3), 8);
        CHECK.due("has(6) of eight curtains", x.has(6), 0);
        Check.toYear(x, 999);
        CHECK.due("has(2)", x.has(2), 999);
    }

    /** "Who lives in a HOUSE; NONE when it is empty, or there is none such." */
    private static void houses() {
        for (int houses = 2; houses <= 9; houses++) {
            for (int lived = 0; lived < houses; lived++) {
                Retouched x = Check.told("terrace " + houses + ";soul a at " + lived + " face 1 kind 1;");
                for (int h = -1; h <= 10; h++) {
                    CHECK.due("house(" + h + ") of " + houses, x.house(h), h == lived ? 0 : -1);
                }
                CHECK.due("house(least)", x.house(LEAST), -1);
                CHECK.due("house(most)", x.house(MOST), -1);
            }
        }
    }

    /** "5, 6 his NEIGHBOUR at the HOUSE less, more by one (NONE). NONE when there is none such, or for others." */
    private static void people() {
        Retouched x = Check.told(Check.row(9, 8, 9, 0));
        for (int p = -1; p <= 8; p++) {
            boolean isThere = p >= 0 && p < 8;
            int[] due = {p, 90, 9, 0, 0, p - 1, p == 7 ? -1 : p + 1};
            for (int what = -1; what <= 7; what++) {
                boolean canBe = isThere && what >= 0 && what < 7;
                CHECK.due("person(" + p + ", " + what + ")", x.person(p, what), canBe ? due[what] : -1);
            }
        }
        // In a full row the first and the last house have nobody beyond them.
        x = Check.told(Check.row(2, 2, 0, 9));
        int[][] due = {{0, 0, 0, 9, 0, -1, 1}, {1, 0, 0, 9, 0, 0, -1}};
        for (int p = 0; p < 2; p++) {
            for (int what = 0; what < 7; what++) {
                CHECK.due("person(" + p + ", " + what + ") of two", x.person(p, what), due[p][what]);
            }
        }
        for (int n : new int[] {LEAST, MOST}) {
            CHECK.due("person(" + n + ", 0)", x.person(n, 0), -1);
            CHECK.due("person(0, " + n + ")", x.person(0, n), -1);
        }
    }

    /** "What a PERSON thinks of another one; NONE when there are none such, or they are one." */
    private static void thoughts() {
        StringBuilder text = new StringBuilder(Check.row(9, 8, 1, 1));
        for (int p = 0; p < 8; p++) {
            text.append("thinks ").append((char) ('a' + p)).append(" of ").append((char) ('a' + (p + 1) % 8)).append(' ').append(p + 1).append(';');
        }
        Retouched x = Check.told(text.toString());
        for (int p = -1; p <= 8; p++) {
            for (int of = -1; of <= 8; of++) {
                boolean areTwo = p >= 0 && p < 8 && of >= 0 && of < 8 && p != of;
                int due = of == (p + 1) % 8 ? p + 1 : 5;
                CHECK.due("thinks(" + p + ", " + of + ")", x.thinks(p, of), areTwo ? due : -1);
            }
        }
        x = Check.told(Check.row(9, 1, 1, 1));
        CHECK.due("thinks(0, 0) of one", x.thinks(0, 0), -1);
        CHECK.due("thinks(0, 1) of one", x.thinks(0, 1), -1);
        CHECK.due("thinks(1, 0) of one", x.thinks(1, 0), -1);
    }

    /** "(side 0, 1; also by one who SPARES); NONE when none is there, there is none such, or for others". */
    private static void paints() {
        Retouched x = Check.told(Check.row(9, 8, 3, 1) + "paints look+1+side;");
        for (int spared = 0; spared < 2; spared++) {
            for (int p = -1; p <= 8; p++) {
                for (int side = -1; side <= 2; side++) {
                    boolean isThere = p >= 0 && p < 8 && (side == 0 && p > 0 || side == 1 && p < 7);
                    CHECK.due("paints(" + p + ", " + side + ")", x.paints(p, side), isThere ? 31 + side : -1);
                }
            }
            for (int p = 0; p < 8; p++) {
                x.spare(p, 1);
            }
        }
        CHECK.due("has(6), all of it stays", x.has(6), 240);
        CHECK.due("paints(least, 0)", x.paints(LEAST, 0), -1);
        CHECK.due("paints(0, most)", x.paints(0, MOST), -1);
    }

    /** "at first it is 10 times the true face". */
    private static void firstPortraits() {
        for (int face = 0; face <= 9; face++) {
            Retouched x = Check.told("terrace 2;soul a at 1 face " + face + " kind " + (9 - face) + ";");
            CHECK.due("person(0, 1) of " + face, x.person(0, 1), 10 * face);
            CHECK.due("person(0, 2) of " + face, x.person(0, 2), face);
            CHECK.due("person(0, 3) of " + face, x.person(0, 3), 9 - face);
            CHECK.due("has(3) of " + face, x.has(3), face == 0 ? 1 : 0);
            CHECK.due("curtain(0) of " + face, x.curtain(0), face == 0 ? 0 : -1);
        }
    }

    /** "It is a CURTAIN, if it is 0": 1 is none. */
    private static void curtains() {
        Retouched x = Check.told(Check.row(2, 2, 1, 1) + "paints look-1;");
        x.years(9);
        CHECK.due("person(0, 1)", x.person(0, 1), 1);
        CHECK.due("has(3) of 1", x.has(3), 0);
        CHECK.due("has(7) of 1", x.has(7), 0);
        CHECK.due("years(1)", x.years(1), 2);
        CHECK.due("has(3) of 0", x.has(3), 2);
        CHECK.due("has(7) of 0", x.has(7), 2);
    }

    /** "the SUM of paints, 0 .. 99 (below is 0, above 99)", by a year and by paints(). */
    private static void heldPortraits() {
        String[] sums = {"0-1000*1000", "0-1", "0", "1", "98", "99", "100", "1000*1000"};
        int[] due = {0, 0, 0, 1, 98, 99, 99, 99};
        for (int i = 0; i < sums.length; i++) {
            Retouched x = Check.told(Check.row(2, 2, 5, 1) + "paints " + sums[i] + ";");
            CHECK.due("paints(0, 1) of " + sums[i], x.paints(0, 1), due[i]);
            CHECK.due("later(0, 1) of " + sums[i], x.later(0, 1), due[i]);
            CHECK.due("years(1) of " + sums[i], x.years(1), due[i] == 0 ? 2 : 0);
            CHECK.due("person(0, 1) of " + sums[i], x.person(0, 1), due[i]);
            CHECK.due("person(1, 1) of " + sums[i], x.person(1, 1), due[i]);
        }
    }

    /** "then the SITTER thinks of him as the SUM of minds tells, 0 .. 9". */
    private static void heldThoughts() {
        String[] sums = {"0-1000*1000", "0-1", "0", "1", "8", "9", "10", "1000*1000"};
        int[] due = {0, 0, 0, 1, 8, 9, 9, 9};
        for (int i = 0; i < sums.length; i++) {
            Retouched x = Check.told(Check.row(3, 2, 5, 1) + "minds " + sums[i] + ";soul c at 2 face 1 kind 1;");
            CHECK.due("mind(0, 1, 1) of " + sums[i], x.mind(0, 1, 1), due[i]);
            x.years(1);
            CHECK.due("thinks(0, 1) of " + sums[i], x.thinks(0, 1), due[i]);
            CHECK.due("thinks(1, 2) of " + sums[i], x.thinks(1, 2), due[i]);
            CHECK.due("thinks(0, 2), who live apart", x.thinks(0, 2), 5);
        }
        // The gain is of the PORTRAIT, which is held: from 95 to 99 it is 4, from 3 to 0 it is -3, from 99 on it is 0.
        Retouched x = Check.told(Check.row(2, 2, 9, 0) + "paints 95+5*year;minds gain;");
        int[] gains = {5, 4, 0};
        for (int i = 0; i < gains.length; i++) {
            x.years(1);
            CHECK.due("thinks(0, 1) by the gain of year " + i, x.thinks(0, 1), gains[i]);
        }
        x = Check.told(Check.row(2, 2, 1, 0) + "paints 3-9*year;minds gain+9;");
        int[] losses = {2, 6, 9};
        for (int i = 0; i < losses.length; i++) {
            x.years(1);
            CHECK.due("thinks(0, 1) by the loss of year " + i, x.thinks(0, 1), losses[i]);
        }
    }

    /** "SITTER by SITTER, by HOUSES: .. to that of the HOUSE less by one first, then to the other one: .. by what is so then". */
    private static void strokes() {
        // The second painter finds what the first has made of it: times 2, then 7 more.
        Retouched x = Check.told(Check.row(3, 3, 1, 0) + "paints look*(2-side)+7*side;");
        x.years(1);
        CHECK.due("person(1, 1), by both", x.person(1, 1), 10 * 2 + 7);
        CHECK.due("person(0, 1), by the other one", x.person(0, 1), 17);
        CHECK.due("person(2, 1), by the one less", x.person(2, 1), 20);
        // Who sits first by his house has thought otherwise when he paints; by the numbers it would be the other way.
        x = Check.told("terrace 2;soul b at 1 face 1 kind 0;soul a at 0 face 1 kind 0;paints thinks*10;minds 9;");
        x.years(1);
        CHECK.due("a, by what b thought", x.person(1, 1), 50);
        CHECK.due("b, by what a thinks now", x.person(0, 1), 90);
        // At once: between the two strokes of one sitter, too. b thinks of a by the first, of c by the second.
        x = Check.told(Check.row(3, 3, 1, 0) + "paints 20+side*50;minds gain/10;");
        x.years(1);
        CHECK.due("b of a", x.thinks(1, 0), 1);
        CHECK.due("b of c", x.thinks(1, 2), 5);
        // The YEAR is one more behind all strokes of it only.
        x = Check.told(Check.row(3, 3, 1, 0) + "paints year;minds year;");
        x.years(1);
        CHECK.due("person(2, 1) in the year 0", x.person(2, 1), 0);
        x.years(1);
        CHECK.due("person(2, 1) in the year 1", x.person(2, 1), 1);
        CHECK.due("thinks(2, 1) in the year 1", x.thinks(2, 1), 1);
    }

    /** "(One who is not there does nothing.)"; NEIGHBOURS are those of the houses next to his: the ends, and gaps. */
    private static void emptyHouses() {
        String text = "terrace 5;soul a at 0 face 1 kind 0;soul b at 2 face 1 kind 0;soul c at 4 face 1 kind 0;paints 0;minds 0;";
        Retouched x = Check.told(text);
        CHECK.due("years(100) with gaps", x.years(100), 0);
        for (int p = 0; p < 3; p++) {
            CHECK.due("person(" + p + ", 1)", x.person(p, 1), 10);
            CHECK.due("person(" + p + ", 5)", x.person(p, 5), -1);
            CHECK.due("person(" + p + ", 6)", x.person(p, 6), -1);
            CHECK.due("paints(" + p + ", 0)", x.paints(p, 0), -1);
            CHECK.due("paints(" + p + ", 1)", x.paints(p, 1), -1);
        }
        x.change(0, 1);
        CHECK.due("person(0, 6) side by side", x.person(0, 6), 1);
        CHECK.due("person(1, 5) side by side", x.person(1, 5), 0);
        CHECK.due("years(1) side by side", x.years(1), 2);
        CHECK.due("thinks(0, 1)", x.thinks(0, 1), 0);
        CHECK.due("thinks(2, 1)", x.thinks(2, 1), 5);
        // Alone in the terrace.
        x = Check.told("terrace 9;soul a at 8 face 3 kind 0;paints 0;");
        CHECK.due("years(100) alone", x.years(100), 0);
        CHECK.due("person(0, 1) alone", x.person(0, 1), 30);
        CHECK.due("house(8)", x.house(8), 0);
        CHECK.due("house(9)", x.house(9), -1);
        CHECK.due("house(-1)", x.house(-1), -1);
        CHECK.due("house(7)", x.house(7), -1);
    }

    /** "Whether a FEUD is between the HOUSES k and k + 1: .. NONE when they are not both lived in, or there are none such". */
    private static void feuds() {
        Retouched x = Check.told(Check.row(9, 8, 1, 1) + "feud all;");
        for (int k = -1; k <= 9; k++) {
            CHECK.due("feud(" + k + ")", x.feud(k), k >= 0 && k <= 6 ? 1 : -1);
        }
        x.change(0, 8);
        for (int k = -1; k <= 9; k++) {
            CHECK.due("feud(" + k + ") behind the change", x.feud(k), k >= 1 && k <= 7 ? 1 : -1);
        }
        x = Check.told(Check.row(2, 2, 1, 1));
        CHECK.due("feud(0) of two", x.feud(0), 0);
        CHECK.due("feud(1) of two", x.feud(1), -1);
        CHECK.due("feud(0) of one", Check.told(Check.row(2, 1, 1, 1)).feud(0), -1);
        CHECK.due("feud(least)", x.feud(LEAST), -1);
        CHECK.due("feud(most)", x.feud(MOST), -1);
        // For the one of the HOUSE less by one as the first, whatever their numbers.
        x = Check.told("terrace 2;soul b at 1 face 1 kind 7;soul a at 0 face 1 kind 3;feud kind=3;");
        CHECK.due("feud(0) by the one at 0", x.feud(0), 1);
        x.change(0, 1);
        CHECK.due("feud(0) by the other one at 0", x.feud(0), 0);
    }

    /** One curtain comes in each even year, since a spares and b paints. */
    private static Retouched toggling() {
        Retouched x = Check.told(Check.row(2, 2, 1, 1) + "paints 1-min(look,1);");
        x.spare(0, 1);
        return x;
    }

    /** "the last 40 are told": with 0, 1, 39, 40, 41 and 81 of them. */
    private static void kept() {
        Retouched x = toggling();
        CHECK.due("kept(0, 0) of none", x.kept(0, 0), -1);
        int came = 0;
        for (int n : new int[] {1, 38, 1, 1, 40}) {
            for (int i = 0; i < n; i++) {
                CHECK.due("years(2)", x.years(2), 1);
            }
            came += n;
            int told = Math.min(came, 40);
            CHECK.due("has(7) of " + came, x.has(7), told);
            CHECK.due("kept(-1, 0) of " + came, x.kept(-1, 0), -1);
            CHECK.due("kept(0, 0) of " + came, x.kept(0, 0), 2 * (came - told));
            CHECK.due("kept(last, 0) of " + came, x.kept(told - 1, 0), 2 * (came - 1));
            CHECK.due("kept(last, 1) of " + came, x.kept(told - 1, 1), 0);
            CHECK.due("kept(last, 2) of " + came, x.kept(told - 1, 2), 1);
            CHECK.due("kept(last, 3) of " + came, x.kept(told - 1, 3), -1);
            CHECK.due("kept(last, -1) of " + came, x.kept(told - 1, -1), -1);
            CHECK.due("kept(behind, 0) of " + came, x.kept(told, 0), -1);
        }
        for (int k = 0; k < 40; k++) {
            CHECK.due("kept(" + k + ", 0) in order", x.kept(k, 0), 2 * (81 - 40 + k));
        }
        // More than 40 at one call: how many came is told in full.
        x = Check.told(Check.row(9, 8, 1, 1) + "paints 1-min(look,1);");
        Retouched y = Check.told(Check.row(9, 8, 1, 1) + "paints 1-min(look,1);");
        int all = 0;
        for (int i = 0; i < 100; i++) {
            all += y.years(1);
        }
        CHECK.due("years(100) of eight", x.years(100), all);
        CHECK.due("more than 40", all > 40, true);
        CHECK.due("has(7) of eight", x.has(7), 40);
        // The last year that can be: 998, and people 7 and 6.
        x = Check.told(Check.row(9, 8, 1, 1) + "paints 99*max(0,min(1,998-year));");
        Check.toYear(x, 998);
        CHECK.due("years(1) to 999", x.years(1), 8);
        CHECK.due("kept(7, 0)", x.kept(7, 0), 998);
        CHECK.due("kept(7, 1)", x.kept(7, 1), 7);
        CHECK.due("kept(7, 2)", x.kept(7, 2), 6);
        CHECK.due("kept(0, 1)", x.kept(0, 1), 0);
        CHECK.due("kept(0, 2)", x.kept(0, 2), 1);
    }

    /** "KEPT is each CURTAIN that comes by painting (it was none ahead of that stroke)". */
    private static void keptStrokes() {
        // The first stroke makes it one, the second makes it none again: it is kept.
        Retouched x = Check.told(Check.row(3, 3, 1, 0) + "paints side*5;");
        CHECK.due("years(1)", x.years(1), 2);
        CHECK.due("kept(0, 1)", x.kept(0, 1), 1);
        CHECK.due("kept(0, 2)", x.kept(0, 2), 0);
        CHECK.due("kept(1, 1)", x.kept(1, 1), 2);
        CHECK.due("has(3)", x.has(3), 1);
        // The second makes it one.
        x = Check.told(Check.row(3, 3, 1, 0) + "paints 5-side*5;");
        CHECK.due("years(1)", x.years(1), 2);
        CHECK.due("kept(0, 2)", x.kept(0, 2), 1);
        CHECK.due("kept(1, 1)", x.kept(1, 1), 1);
        CHECK.due("kept(1, 2)", x.kept(1, 2), 2);
        // Both strokes to 0: it comes by the first alone, and never again.
        x = Check.told(Check.row(3, 3, 1, 0) + "paints 0;");
        CHECK.due("years(1)", x.years(1), 3);
        CHECK.due("kept(1, 2)", x.kept(1, 2), 0);
        CHECK.due("years(100)", x.years(100), 0);
        CHECK.due("has(7)", x.has(7), 3);
        // One that was a curtain at first does not come.
        x = Check.told(Check.row(3, 3, 0, 0) + "paints 0;");
        CHECK.due("years(9) of curtains", x.years(9), 0);
    }

    /** A curtain that comes by a slip, by right(), or by an image is none that comes by painting. */
    private static void keptByPaintingAlone() {
        Retouched x = Check.told(Check.row(2, 2, 0, 0) + "paints 7;slip 0;");
        x.years(1);
        CHECK.due("right(0)", x.right(0), true);
        CHECK.due("has(3) by right()", x.has(3), 1);
        CHECK.due("has(7) by right()", x.has(7), 0);
        x = Check.told("terrace 2;soul a at 0 face 9 kind 0;slip 100;");
        int seed = 0;
        for (; seed < 10000; seed++) {
            Draws draws = new Draws(seed);
            draws.draw(100);
            draws.draw(1);
            if (draws.draw(100) == 0) {
                break;
            }
        }
        x.seed(seed);
        CHECK.due("chance(1) by a seed that slips to 0", x.chance(1), 1);
        CHECK.due("has(3) by a slip", x.has(3), 1);
        CHECK.due("has(7) by a slip", x.has(7), 0);
        // By painting in a year by the seed it is kept as ever.
        x = Check.told(Check.row(2, 2, 1, 0) + "paints 0;");
        CHECK.due("chance(1) without slips", x.chance(1), 0);
        CHECK.due("has(7) by chance()", x.has(7), 2);
    }

    /** "Two HOUSES change who lives there (one may be empty)": the first and the last HOUSE, lived in or empty. */
    private static void change() {
        Retouched x = Check.told(Check.row(9, 8, 1, 1));
        CHECK.due("change(7, 8), the last one empty", x.change(7, 8), true);
        CHECK.due("house(8)", x.house(8), 7);
        CHECK.due("house(7)", x.house(7), -1);
        CHECK.due("person(7, 0)", x.person(7, 0), 8);
        CHECK.due("change(7, 0), the first one empty now", x.change(7, 0), true);
        CHECK.due("house(0)", x.house(0), -1);
        CHECK.due("house(7)", x.house(7), 0);
        CHECK.due("change(8, 7), both lived in", x.change(8, 7), true);
        CHECK.due("house(8)", x.house(8), 0);
        CHECK.due("house(7)", x.house(7), 7);
        CHECK.due("change(0, 9)", x.change(0, 9), false);
        CHECK.due("change(9, 0)", x.change(9, 0), false);
        CHECK.due("change(1, 9)", x.change(1, 9), false);
        CHECK.due("change(9, 8)", x.change(9, 8), false);
        CHECK.due("change(-1, 8)", x.change(-1, 8), false);
        CHECK.due("change(8, -1)", x.change(8, -1), false);
        CHECK.due("change(8, 8)", x.change(8, 8), false);
        CHECK.due("change(0, 0), empty", x.change(0, 0), false);
        CHECK.due("status(2)", x.status(2), 8);
        CHECK.due("has(9)", x.has(9), 3);
        x = Check.told(Check.row(4, 1, 1, 1));
        CHECK.due("change(1, 2), both empty", x.change(1, 2), false);
        CHECK.due("change(0, 1), the other empty", x.change(0, 1), true);
        CHECK.due("change(0, 1), the first empty", x.change(0, 1), true);
        CHECK.due("house(0)", x.house(0), 0);
        CHECK.due("status(2)", x.status(2), 1);
    }

    /** "a PORTRAIT is put right (as at first)"; "when it is so already": one off, on both sides, is not so. */
    private static void right() {
        for (String sum : new String[] {"look-1", "look+1", "0", "99"}) {
            Retouched x = Check.told(Check.row(2, 2, 5, 0) + "paints " + sum + ";");
            CHECK.due("right(1) already", x.right(1), false);
            x.years(1);
            CHECK.due("right(1) of " + sum, x.right(1), true);
            CHECK.due("person(1, 1)", x.person(1, 1), 50);
            CHECK.due("person(0, 1) stays", x.person(0, 1) != 50, true);
            CHECK.due("right(1) once more", x.right(1), false);
            CHECK.due("right(2)", x.right(2), false);
            CHECK.due("right(-1)", x.right(-1), false);
            CHECK.due("status(2)", x.status(2), 4);
        }
        Retouched x = Check.told(Check.row(2, 2, 0, 0) + "paints 1;");
        x.years(1);
        CHECK.due("right(0) to 0", x.right(0), true);
        CHECK.due("person(0, 1)", x.person(0, 1), 0);
        x = Check.told(Check.row(2, 2, 9, 0) + "paints 99;");
        x.years(1);
        CHECK.due("right(1) to 90", x.right(1), true);
        CHECK.due("person(1, 1)", x.person(1, 1), 90);
    }

    /** "nobody SPARES" at first; "A PERSON SPARES (on 1), or paints (0)": the first and the last one. */
    private static void spare() {
        Retouched x = Check.told(Check.row(9, 8, 1, 1));
        for (int p : new int[] {0, 7}) {
            CHECK.due("person(" + p + ", 4) at first", x.person(p, 4), 0);
            CHECK.due("spare(" + p + ", 0) at first", x.spare(p, 0), false);
            CHECK.due("spare(" + p + ", 1)", x.spare(p, 1), true);
            CHECK.due("person(" + p + ", 4)", x.person(p, 4), 1);
            CHECK.due("spare(" + p + ", 1) once more", x.spare(p, 1), false);
            CHECK.due("spare(" + p + ", 2)", x.spare(p, 2), false);
            CHECK.due("spare(" + p + ", -1)", x.spare(p, -1), false);
            CHECK.due("spare(" + p + ", 0)", x.spare(p, 0), true);
        }
        CHECK.due("spare(8, 1)", x.spare(8, 1), false);
        CHECK.due("spare(-1, 1)", x.spare(-1, 1), false);
        CHECK.due("status(2)", x.status(2), 10);
        CHECK.due("has(9)", x.has(9), 4);
    }

    /** "n YEARS (1 .. 100)", of years() and of chance(). */
    private static void years() {
        for (int n : new int[] {LEAST, -1, 0, 1, 2, 99, 100, 101, 200, MOST}) {
            boolean canBe = n >= 1 && n <= 100;
            Retouched x = Check.told(Check.row(2, 2, 5, 1) + "paints 0;");
            CHECK.due("years(" + n + ")", x.years(n), canBe ? 2 : -1);
            CHECK.due("has(2) behind years(" + n + ")", x.has(2), canBe ? n : 0);
            CHECK.due("status(3) behind years(" + n + ")", x.status(3), canBe ? 0 : 1);
            CHECK.due("has(9) behind years(" + n + ")", x.has(9), canBe ? 1 : 0);
            x = Check.told(Check.row(2, 2, 5, 1) + "slip 100;");
            CHECK.due("chance(" + n + ")", x.chance(n), canBe ? n : -1);
            CHECK.due("has(2) behind chance(" + n + ")", x.has(2), canBe ? n : 0);
            CHECK.due("status(3) behind chance(" + n + ")", x.status(3), canBe ? 0 : 1);
            CHECK.due("has(9) behind chance(" + n + ")", x.has(9), canBe ? 1 : 0);
        }
    }

    /** "The YEAR is one more (999 at most)". */
    private static void lastYear() {
        for (int year : new int[] {898, 899, 900, 950, 998, 999}) {
            for (int n : new int[] {1, 2, 49, 50, 99, 100}) {
                boolean canBe = year + n <= 999;
                Retouched x = Check.told(Check.row(2, 2, 5, 1) + "slip 100;");
                Check.toYear(x, year);
                CHECK.due("years(" + n + ") in the year " + year, x.years(n), canBe ? 0 : -1);
                CHECK.due("has(2)", x.has(2), canBe ? year + n : year);
                CHECK.due("status(3)", x.status(3), canBe ? 0 : 1);
                x = Check.told(Check.row(2, 2, 5, 1) + "slip 100;");
                Check.toYear(x, year);
                CHECK.due("chance(" + n + ") in the year " + year, x.chance(n), canBe ? n : -1);
                CHECK.due("has(2)", x.has(2), canBe ? year + n : year);
                CHECK.due("status(3)", x.status(3), canBe ? 0 : 1);
            }
        }
        // The last year is painted as any other one; the acts that are no years can be in 999 still.
        Retouched x = Check.told(Check.row(2, 2, 5, 1) + "paints year-950;");
        Check.toYear(x, 998);
        CHECK.due("years(1)", x.years(1), 0);
        CHECK.due("person(0, 1)", x.person(0, 1), 48);
        CHECK.due("paints(0, 1) in 999", x.paints(0, 1), 49);
        CHECK.due("right(0) in 999", x.right(0), true);
        CHECK.due("spare(0, 1) in 999", x.spare(0, 1), true);
        CHECK.due("change(0, 1) in 999", x.change(0, 1), true);
        CHECK.due("undo() in 999", x.undo() && x.undo() && x.undo() && x.undo(), true);
        CHECK.due("has(2) behind undo()", x.has(2), 998);
    }

    /** The draws by the document's own words. */
    private static final class Draws {
        private java.math.BigInteger seed;

        Draws(long seed) {
            this.seed = java.math.BigInteger.valueOf(seed);
        }

        int draw(int m) {
            seed = seed.multiply(java.math.BigInteger.valueOf(1103515245)).add(java.math.BigInteger.valueOf(12345))
                    .mod(java.math.BigInteger.TWO.pow(31));
            return (int) (seed.longValue() / 64 % m);
        }
    }

    /** "A DRAW of m: x (the seed) becomes (1103515245 x + 12345) mod 2 to the 31; floor(x / 64) mod m": seeds at both ends. */
    private static void draws() {
        for (int seed : new int[] {0, 1, 2, 63, 64, 65535, 65536, 1073741823, 1073741824, MOST - 1, MOST}) {
            for (int people = 1; people <= 8; people++) {
                Retouched x = Check.told(Check.row(9, people, 3, 1) + "slip 100;");
                CHECK.due("seed(" + seed + ")", x.seed(seed), true);
                Draws draws = new Draws(seed);
                int[] looks = new int[people];
                java.util.Arrays.fill(looks, 30);
                for (int i = 0; i < 3; i++) {
                    draws.draw(100);
                    int who = draws.draw(people);
                    looks[who] = draws.draw(100);
                    CHECK.due("chance(1) by " + seed, x.chance(1), 1);
                    for (int p = 0; p < people; p++) {
                        CHECK.due("person(" + p + ", 1) by " + seed, x.person(p, 1), looks[p]);
                    }
                }
            }
        }
    }

    /** "ahead of each a DRAW of 100: below slip": the same draw with slip as much, and one more. */
    private static void belowSlip() {
        for (int seed = 0; seed < 300; seed++) {
            int drawn = new Draws(seed).draw(100);
            Retouched x = Check.told(Check.row(2, 1, 1, 1) + "slip " + drawn + ";");
            x.seed(seed);
            CHECK.due("chance(1) of slip " + drawn, x.chance(1), 0);
            CHECK.due("person(0, 1)", x.person(0, 1), 10);
            x = Check.told(Check.row(2, 1, 1, 1) + "slip " + (drawn + 1) + ";");
            x.seed(seed);
            CHECK.due("chance(1) of slip " + (drawn + 1), x.chance(1), 1);
        }
    }

    /** "0 without": no draw is below it, not even 0. */
    private static void untoldSlip() {
        int seen = 0;
        for (int seed = 0; seed < 1000; seed++) {
            if (new Draws(seed).draw(100) == 0) {
                seen++;
                Retouched x = Check.told(Check.row(2, 1, 1, 1));
                x.seed(seed);
                CHECK.due("chance(1) without slip", x.chance(1), 0);
                Check.terrace(x, Check.row(2, 1, 1, 1) + "slip 1;");
                x.seed(seed);
                CHECK.due("chance(1) of slip 1", x.chance(1), 1);
                Check.terrace(x, Check.row(2, 1, 1, 1));
                x.seed(seed);
                CHECK.due("chance(1) without slip behind it", x.chance(1), 0);
            }
        }
        CHECK.due("seeds that draw 0", seen > 0, true);
    }

    /** "if there are PEOPLE": a draw each year all the same, and no slip. */
    private static void slipsOfNobody() {
        for (int n : new int[] {1, 2, 100}) {
            Retouched x = Check.told("terrace 2;slip 100;");
            CHECK.due("chance(" + n + ") of nobody", x.chance(n), 0);
            CHECK.due("has(2)", x.has(2), n);
            Draws draws = new Draws(1);
            for (int i = 0; i < n; i++) {
                draws.draw(100);
            }
            Check.terrace(x, Check.row(9, 8, 1, 1) + "slip 100;");
            draws.draw(100);
            int who = draws.draw(8);
            CHECK.due("chance(1) behind it", x.chance(1), 1);
            CHECK.due("the portrait that slipped", x.person(who, 1), draws.draw(100));
        }
        // A refused call, and years without the seed, draw nothing.
        Retouched x = Check.told(Check.row(9, 8, 1, 1) + "slip 100;");
        x.chance(0);
        x.chance(101);
        x.years(100);
        x.seed(-1);
        x.later(0, 60);
        Draws draws = new Draws(1);
        draws.draw(100);
        int who = draws.draw(8);
        x.chance(1);
        CHECK.due("the first slip", x.person(who, 1), draws.draw(100));
    }

    /** "YEARS by the seed: ahead of each .. so is his PORTRAIT": the year's painters find what slipped. */
    private static void slipsAheadOfTheYear() {
        for (int seed = 0; seed < 20; seed++) {
            Retouched x = Check.told(Check.row(2, 2, 3, 1) + "paints look/2;slip 100;");
            x.seed(seed);
            Draws draws = new Draws(seed);
            int[] looks = {30, 30};
            for (int i = 0; i < 5; i++) {
                draws.draw(100);
                int who = draws.draw(2);
                looks[who] = draws.draw(100);
                looks[0] /= 2;
                looks[1] /= 2;
            }
            CHECK.due("chance(5)", x.chance(5), 5);
            CHECK.due("person(0, 1)", x.person(0, 1), looks[0]);
            CHECK.due("person(1, 1)", x.person(1, 1), looks[1]);
        }
    }

    /** "The last 20 can be undone": with 0, 1, 19, 20, 21 and 45 acts, and acts again behind some undone. */
    private static void undo() {
        for (int acts : new int[] {0, 1, 19, 20, 21, 45}) {
            Retouched x = Check.told(Check.row(3, 2, 5, 1));
            for (int i = 0; i < acts; i++) {
                CHECK.due("years(1)", x.years(1), 0);
            }
            int most = Math.min(20, acts);
            CHECK.due("has(9) of " + acts, x.has(9), most);
            for (int i = 1; i <= most; i++) {
                CHECK.due("undo() " + i + " of " + acts, x.undo(), true);
                CHECK.due("has(2) behind undo() " + i, x.has(2), acts - i);
                CHECK.due("has(9) behind undo() " + i, x.has(9), most - i);
            }
            CHECK.due("undo() of none of " + acts, x.undo(), false);
            CHECK.due("has(2) stays", x.has(2), acts - most);
            CHECK.due("status(4)", x.status(4), 1);
            CHECK.due("spare(0, 1)", x.spare(0, 1), true);
            CHECK.due("has(9) of one anew", x.has(9), 1);
            CHECK.due("undo() of it", x.undo(), true);
            CHECK.due("person(0, 4)", x.person(0, 4), 0);
            CHECK.due("undo() of none", x.undo(), false);
        }
        Retouched x = Check.told(Check.row(3, 2, 5, 1));
        for (int i = 0; i < 25; i++) {
            x.years(1);
        }
        for (int i = 0; i < 7; i++) {
            x.undo();
        }
        for (int i = 0; i < 6; i++) {
            x.years(2);
        }
        CHECK.due("has(9) of 13 and 6", x.has(9), 19);
        x.years(2);
        x.years(2);
        CHECK.due("has(9) of 13 and 8", x.has(9), 20);
        for (int i = 0; i < 8; i++) {
            x.undo();
        }
        CHECK.due("has(2) behind eight undone", x.has(2), 18);
        for (int i = 0; i < 12; i++) {
            CHECK.due("undo()", x.undo(), true);
        }
        CHECK.due("has(2) behind all undone", x.has(2), 6);
        CHECK.due("undo() of none", x.undo(), false);
    }

    /** "The latest ACT is undone (the seed stays)": each kind of act; what is no act stays as it is. */
    private static void undoLeaves() {
        Retouched x = Check.told(Check.row(3, 2, 5, 1) + "paints look-10;minds thinks+1;slip 100;");
        int[] first = Check.image(x);
        x.change(0, 2);
        undone(x, first);
        x.spare(0, 1);
        undone(x, first);
        x.years(100);
        undone(x, first);
        x.chance(100);
        undone(x, first);
        x.years(1);
        int[] later = Check.image(x);
        x.right(0);
        CHECK.due("undo() of right()", x.undo(), true);
        same(x, later);
        // Curtains kept by the act are kept no more; those of acts ahead of it are.
        x.years(4);
        CHECK.due("has(7)", x.has(7), 2);
        x.right(0);
        x.years(5);
        CHECK.due("has(7)", x.has(7), 3);
        x.undo();
        CHECK.due("has(7) behind undo()", x.has(7), 2);
        x.undo();
        x.undo();
        CHECK.due("has(7) behind undo()", x.has(7), 0);
        // Seen rows, the seed, what was written and counted are no acts.
        x = Check.told(Check.row(3, 2, 5, 1) + "slip 100;");
        x.years(3);
        Check.see(x, 0, 0, 50);
        x.image();
        x.seed(9);
        x.end(1);
        x.undo();
        CHECK.due("has(8) behind undo()", x.has(8), 1);
        CHECK.due("octet(1) behind undo()", x.octet(1), 3);
        CHECK.due("status(0) behind undo()", x.status(0), 1);
        Draws draws = new Draws(9);
        draws.draw(100);
        int who = draws.draw(2);
        x.chance(1);
        CHECK.due("the seed stays", x.person(who, 1), draws.draw(100));
        seenBehindActs();
        // seed(), see(), image(), ask() and refused calls can't be undone.
        x = Check.told(Check.row(3, 2, 5, 1));
        x.seed(9);
        Check.see(x, 0, 0, 50);
        x.image();
        Check.ask(x, "total 1");
        x.right(0);
        CHECK.due("has(9)", x.has(9), 0);
        CHECK.due("undo()", x.undo(), false);
    }

    /** Only a new terrace, or another see(), makes SEEN otherwise: its years ahead are counted from what is now then. */
    private static void seenBehindActs() {
        Retouched x = Check.told(Check.row(3, 2, 5, 1) + "paints look+thinks;minds thinks;slip 0;");
        Check.see(x, 1, 0, 53);
        CHECK.due("thoughts(1, 0)", x.thoughts(1, 0), 1 << 3);
        CHECK.due("change(0, 2)", x.change(0, 2), true);
        seen(x, 1 << 3);
        CHECK.due("spare(0, 1)", x.spare(0, 1), true);
        seen(x, 1 << 3);
        CHECK.due("spare(1, 1)", x.spare(1, 1), true);
        seen(x, 0);
        CHECK.due("spare(1, 0)", x.spare(1, 0), true);
        seen(x, 1 << 3);
        CHECK.due("years(1)", x.years(1), 0);
        seen(x, 0);
        CHECK.due("chance(1)", x.chance(1), 0);
        seen(x, 0);
        CHECK.due("right(0)", x.right(0), true);
        seen(x, 1 << 3);
        CHECK.due("undo()", x.undo(), true);
        seen(x, 0);
    }

    private static void seen(Retouched x, int thoughts) {
        CHECK.due("has(8)", x.has(8), 1);
        CHECK.due("thoughts(1, 0)", x.thoughts(1, 0), thoughts);
    }

    private static void undone(Retouched x, int[] image) {
        CHECK.due("undo()", x.undo(), true);
        same(x, image);
        CHECK.due("has(7)", x.has(7), 0);
        CHECK.due("has(9)", x.has(9), 0);
    }

    private static void same(Retouched x, int[] image) {
        int[] again = Check.image(x);
        CHECK.due("image()", again.length, image.length);
        for (int k = 0; k < image.length; k++) {
            CHECK.due("octet(" + k + ")", again[k], image[k]);
        }
    }

    /** "The seed: true; false, refused (5), when it is below 0. (It is 1 at first.)"; it stays behind terrace(). */
    private static void seeds() {
        String text = Check.row(9, 8, 1, 1) + "slip 100;";
        int[] due = new int[3];
        for (int i = 0; i < 3; i++) {
            Retouched x = new Retouched();
            if (i == 1) {
                CHECK.due("seed(1)", x.seed(1), true);
            }
            if (i == 2) {
                CHECK.due("seed(-1)", x.seed(-1), false);
                CHECK.due("status(5)", x.status(5), 1);
            }
            Check.terrace(x, text);
            x.chance(9);
            x.image();
            due[i] = x.octet(82);
        }
        CHECK.due("the first seed is 1", due[0], due[1]);
        CHECK.due("a refused one stays", due[0], due[2]);
        Retouched x = new Retouched();
        CHECK.due("seed(0)", x.seed(0), true);
        Check.terrace(x, text);
        Draws draws = new Draws(0);
        draws.draw(100);
        int who = draws.draw(8);
        x.chance(1);
        CHECK.due("the seed stays behind terrace()", x.person(who, 1), draws.draw(100));
        Check.terrace(x, text);
        draws.draw(100);
        who = draws.draw(8);
        x.chance(1);
        CHECK.due("the draws go on behind terrace()", x.person(who, 1), draws.draw(100));
        CHECK.due("seed(least)", x.seed(LEAST), false);
        CHECK.due("seed(most)", x.seed(MOST), true);
    }
}
