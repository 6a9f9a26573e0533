/** Promises 6 and 8 to 13: has, house, person, thinks, paints, feud, kept. */
public final class SceneTest {
    private static final Check CHECK = new Check("SceneTest");
    private static final String THREE = "terrace 5;soul ann at 4 face 0 kind 1;soul bob at 1 face 7 kind 2;"
            + "soul cid at 0 face 9 kind 3;thinks ann of bob 1;thinks bob of cid 8;thinks bob of cid 7;thinks cid of bob 2;";

    public static void main(String[] args) {
        counts();
        houses();
        people();
        thoughts();
        painting();
        arithmetic();
        yearByYear();
        feuds();
        tests();
        kept();
        CHECK.finish();
    }

    private static void counts() {
        Retouched x = Check.told(THREE);
        int[] due = {5, 3, 0, 1, 0, 0, 160, 0, 0, 0};
        for (int what = 0; what < due.length; what++) {
            CHECK.due("has(" + what + ")", x.has(what), due[what]);
        }
        CHECK.due("has(10)", x.has(10), -1);
        CHECK.due("has(-1)", x.has(-1), -1);
        x.spare(2, 1);
        x.spare(0, 1);
        CHECK.due("has(4) of two who spare", x.has(4), 2);
        CHECK.due("has(9) of two acts", x.has(9), 2);
        x.years(7);
        CHECK.due("has(2)", x.has(2), 7);
        Check.see(x, 1, 0, 0, 2, 1, 5);
        CHECK.due("has(8) of two rows", x.has(8), 2);
    }

    private static void houses() {
        Retouched x = Check.told(THREE);
        int[] due = {2, 1, -1, -1, 0};
        for (int h = 0; h < due.length; h++) {
            CHECK.due("house(" + h + ")", x.house(h), due[h]);
        }
        CHECK.due("house(5)", x.house(5), -1);
        CHECK.due("house(-1)", x.house(-1), -1);
        CHECK.due("house(least)", x.house(Integer.MIN_VALUE), -1);
    }

    private static void people() {
        Retouched x = Check.told(THREE);
        int[][] due = {{4, 0, 0, 1, 0, -1, -1}, {1, 70, 7, 2, 0, 2, -1}, {0, 90, 9, 3, 0, -1, 1}};
        for (int p = 0; p < 3; p++) {
            for (int what = 0; what < 7; what++) {
                CHECK.due("person(" + p + ", " + what + ")", x.person(p, what), due[p][what]);
            }
            CHECK.due("person(" + p + ", 7)", x.person(p, 7), -1);
            CHECK.due("person(" + p + ", -1)", x.person(p, -1), -1);
        }
        x.spare(1, 1);
        CHECK.due("person(1, 4) of one who spares", x.person(1, 4), 1);
        CHECK.due("person(3, 0)", x.person(3, 0), -1);
        CHECK.due("person(-1, 0)", x.person(-1, 0), -1);
        CHECK.due("person(3, 5)", x.person(3, 5), -1);
    }

    private static void thoughts() {
        Retouched x = Check.told(THREE);
        int[][] due = {{-1, 1, 5}, {5, -1, 7}, {5, 2, -1}};
        for (int p = 0; p < 3; p++) {
            for (int of = 0; of < 3; of++) {
                CHECK.due("thinks(" + p + ", " + of + ")", x.thinks(p, of), due[p][of]);
            }
        }
        CHECK.due("thinks(0, 3)", x.thinks(0, 3), -1);
        CHECK.due("thinks(3, 0)", x.thinks(3, 0), -1);
        CHECK.due("thinks(-1, 0)", x.thinks(-1, 0), -1);
        CHECK.due("thinks(-1, -1)", x.thinks(-1, -1), -1);
    }

    private static void painting() {
        // Of cid, at 0, bob at 1 is the painter: face 9, kind 2, thinks 7, look 90, side 1.
        due(THREE + "paints face;", 2, 1, 9);
        due(THREE + "paints kind;", 2, 1, 2);
        due(THREE + "paints thinks;", 2, 1, 7);
        due(THREE + "paints look;", 2, 1, 90);
        due(THREE + "paints side;", 2, 1, 1);
        due(THREE + "paints year;", 2, 1, 0);
        due(THREE, 2, 1, 90);
        due(THREE + "paints face;", 1, 0, 7);
        due(THREE + "paints kind;", 1, 0, 3);
        due(THREE + "paints thinks;", 1, 0, 2);
        due(THREE + "paints side;", 1, 0, 0);
        due(THREE + "paints look+30;", 2, 1, 99);
        due(THREE + "paints look-91;", 2, 1, 0);
        due(THREE + "paints 1;", 1, 1, -1);
        due(THREE + "paints 1;", 2, 0, -1);
        due(THREE + "paints 1;", 0, 0, -1);
        due(THREE + "paints 1;", 0, 1, -1);
        due(THREE + "paints 1;", 2, 2, -1);
        due(THREE + "paints 1;", 2, -1, -1);
        due(THREE + "paints 1;", 3, 0, -1);
        due(THREE + "paints 1;", -1, 1, -1);
        Retouched x = Check.told(THREE + "paints look-kind+year;");
        x.spare(1, 1);
        CHECK.due("paints(2, 1) by one who spares", x.paints(2, 1), 88);
        x.years(5);
        CHECK.due("paints(2, 1) in the year 5", x.paints(2, 1), 93);
        CHECK.due("person(2, 1) stays", x.person(2, 1), 90);
    }

    private static void due(String text, int sitter, int side, int want) {
        CHECK.due("paints(" + sitter + ", " + side + ") of " + text, Check.told(text).paints(sitter, side), want);
    }

    private static void arithmetic() {
        // The painter of cid: kind 2, thinks 7.
        sum("1+2*3", 7);
        sum("10-3-2", 5);
        sum("10-3+2", 9);
        sum("20/3/2", 3);
        sum("20/3*2", 12);
        sum("2*7/4", 3);
        sum("(1+2)*3", 9);
        sum("100-(10-3)*2", 86);
        sum("7/0", 0);
        sum("5+7/0", 5);
        sum("50+(0-7)/2", 46);
        sum("50+7/(0-2)", 46);
        sum("50+(0-7)/(0-2)", 53);
        sum("50+(0-8)/2", 46);
        sum("min(3,9)", 3);
        sum("max(3,9)", 9);
        sum("min(9,max(kind,thinks))", 7);
        sum("min(3,0-4)+50", 46);
        // Held at a million, step by step.
        sum("(9999*9999-9999*99)/1000", 10);
        sum("9999*9999/(9999+1)-1", 99);
        sum("9999*9999/(9999+1)-90", 10);
        sum("(9999*9999+9999*9999)/(9999+1)-50", 50);
        sum("(0-9999*9999-9999*9999)/(9999+1)+150", 50);
        sum("(0-9999)*9999/(9999+1)+150", 50);
        sum("9999*9999-9999*9999+7", 7);
        sum("9999*9999*9999/9999-50", 50);
    }

    private static void sum(String sum, int want) {
        due(THREE + "paints " + sum + ";", 2, 1, want);
    }

    /** Two years by hand. Houses: a (face 2, kind 1) b (face 5, kind 3) c (face 8, kind 6, who spares). */
    private static void yearByYear() {
        Retouched x = Check.told("terrace 3;soul b at 1 face 5 kind 3;soul c at 2 face 8 kind 6;soul a at 0 face 2 kind 1;"
                + "thinks a of b 4;thinks b of a 6;thinks b of c 9;paints look+thinks-kind+side*10+year;minds gain+face-kind;");
        x.spare(1, 1);
        CHECK.due("years(1)", x.years(1), 0);
        // a by b: 20+6-3+10 = 33, gain 13; a thinks of b 13+5-1 = 17, so 9.
        CHECK.due("a's portrait", x.person(2, 1), 33);
        CHECK.due("a of b", x.thinks(2, 0), 9);
        // b by a: 50+9-1 = 58, gain 8; b thinks of a 8+2-3 = 7; c spares.
        CHECK.due("b's portrait", x.person(0, 1), 58);
        CHECK.due("b of a", x.thinks(0, 2), 7);
        CHECK.due("b of c, who spared", x.thinks(0, 1), 9);
        // c by b: 80+9-3+0 = 86, gain 6; c thinks of b 6+5-6 = 5.
        CHECK.due("c's portrait", x.person(1, 1), 86);
        CHECK.due("c of b", x.thinks(1, 0), 5);
        CHECK.due("years(1)", x.years(1), 0);
        // The year is 1 now. a by b: 33+7-3+10+1 = 48; b by a: 58+9-1+1 = 67; c by b: 86+9-3+1 = 93.
        CHECK.due("a's portrait", x.person(2, 1), 48);
        CHECK.due("b's portrait", x.person(0, 1), 67);
        CHECK.due("c's portrait", x.person(1, 1), 93);
        // The gain is of the portrait as it is held: 99 - 93 is 6, so c thinks 6+5-6 of b.
        CHECK.due("years(1)", x.years(1), 0);
        CHECK.due("c's portrait", x.person(1, 1), 99);
        CHECK.due("c of b", x.thinks(1, 0), 5);
        Retouched y = Check.told("terrace 2;soul a at 0 face 1 kind 1;soul b at 1 face 5 kind 3;paints 0-99;minds gain+12;");
        y.years(1);
        CHECK.due("a by a gain of -10", y.thinks(0, 1), 2);
        CHECK.due("b by a gain of -50", y.thinks(1, 0), 0);
    }

    private static void feuds() {
        // cid at 0 is the first, bob at 1 the other: face 7, kind 3, thinks 2, back 7.
        feud("face=7", 1);
        feud("kind=3", 1);
        feud("thinks=2", 1);
        feud("back=7", 1);
        feud("year=0", 1);
        feud("thinks=7", 0);
        Retouched x = Check.told(THREE);
        CHECK.due("feud(0) untold: 9 < 6", x.feud(0), 0);
        CHECK.due("feud(1)", x.feud(1), -1);
        CHECK.due("feud(3)", x.feud(3), -1);
        CHECK.due("feud(4)", x.feud(4), -1);
        CHECK.due("feud(-1)", x.feud(-1), -1);
        CHECK.due("feud(most)", x.feud(Integer.MAX_VALUE), -1);
        String untold = "terrace 3;soul a at 0 face 1 kind 1;soul b at 1 face 1 kind 1;soul c at 2 face 1 kind 1;";
        x = Check.told(untold + "thinks a of b 3;thinks b of a 2;thinks b of c 3;thinks c of b 3;");
        CHECK.due("feud(0) untold: 5 < 6", x.feud(0), 1);
        CHECK.due("feud(1) untold: 6 < 6", x.feud(1), 0);
        CHECK.due("has(5)", x.has(5), 1);
        x = Check.told(untold + "feud year>1;");
        CHECK.due("has(5) in the year 0", x.has(5), 0);
        x.years(2);
        CHECK.due("has(5) in the year 2", x.has(5), 2);
        x.change(0, 1);
        CHECK.due("feud(0)", x.feud(0), 1);
    }

    private static void feud(String test, int want) {
        CHECK.due("feud(0) of " + test, Check.told(THREE + "feud " + test + ";").feud(0), want);
    }

    private static void tests() {
        String yes = "1<2";
        String no = "2<1";
        feud(yes + " or " + yes + " and " + no, 1);
        feud(no + " and " + yes + " or " + yes, 1);
        feud(no + " and [" + yes + " or " + yes + "]", 0);
        feud("not " + yes + " or " + yes, 1);
        feud("not [" + yes + " or " + yes + "]", 0);
        feud("not " + no + " and " + no, 0);
        feud("not not " + yes, 1);
        feud("not all", 0);
        feud("all", 1);
        feud(no + " or " + no + " or " + yes, 1);
        feud(yes + " or " + no + " or " + no, 1);
        feud(no + " or " + yes + " or " + no, 1);
        feud(no + " and " + yes + " and " + yes, 0);
        feud(yes + " and " + yes + " and " + no, 0);
        feud(no + " or " + yes + " and " + yes + " or " + no, 1);
        feud("2<2", 0);
        feud("2>2", 0);
        feud("2=2", 1);
        feud("3>2", 1);
        feud("0-3<0-2", 1);
        feud("1+1=4/2", 1);
        feud("9999*9999=9999*100+9999*100", 1);
        feud("9999*99=9999*100", 0);
        feud("9999*9999+1=9999*9999", 1);
        feud("0-9999*9999-1=0-9999*9999", 1);
        feud("9999*101=9999*100+100", 1);
    }

    private static void kept() {
        // Each portrait is a curtain every other year: in the years 0, 2, 4 and so on.
        Retouched x = Check.told("terrace 2;soul b at 1 face 1 kind 0;soul a at 0 face 1 kind 0;paints 1-min(look,1);");
        CHECK.due("kept(0, 0) of none", x.kept(0, 0), -1);
        CHECK.due("years(1)", x.years(1), 2);
        CHECK.due("years(1)", x.years(1), 0);
        CHECK.due("has(7)", x.has(7), 2);
        int[][] due = {{0, 1, 0}, {0, 0, 1}};
        for (int k = 0; k < 2; k++) {
            for (int what = 0; what < 3; what++) {
                CHECK.due("kept(" + k + ", " + what + ")", x.kept(k, what), due[k][what]);
            }
        }
        CHECK.due("kept(2, 0)", x.kept(2, 0), -1);
        CHECK.due("kept(-1, 0)", x.kept(-1, 0), -1);
        CHECK.due("kept(0, 3)", x.kept(0, 3), -1);
        CHECK.due("kept(0, -1)", x.kept(0, -1), -1);
        x.years(36);
        CHECK.due("has(7) of 38", x.has(7), 38);
        x.years(2);
        CHECK.due("has(7) of 40", x.has(7), 40);
        CHECK.due("kept(0, 0)", x.kept(0, 0), 0);
        CHECK.due("years(60)", x.years(60), 60);
        CHECK.due("has(7) of 100", x.has(7), 40);
        CHECK.due("kept(0, 0) of the last 40", x.kept(0, 0), 60);
        CHECK.due("kept(0, 1) of the last 40", x.kept(0, 1), 1);
        CHECK.due("kept(39, 0) of the last 40", x.kept(39, 0), 98);
        CHECK.due("kept(39, 2) of the last 40", x.kept(39, 2), 1);
        CHECK.due("kept(40, 0)", x.kept(40, 0), -1);
        // A curtain that is painted as one once more has not come anew.
        x = Check.told("terrace 3;soul a at 0 face 1 kind 0;soul b at 1 face 0 kind 0;soul c at 2 face 2 kind 0;paints 0;");
        CHECK.due("years(5)", x.years(5), 2);
        CHECK.due("kept(0, 1)", x.kept(0, 1), 0);
        CHECK.due("kept(1, 1)", x.kept(1, 1), 2);
        // The first painter makes it one, the second no more; the next year likewise.
        x = Check.told("terrace 3;soul a at 0 face 0 kind 0;soul b at 1 face 1 kind 0;soul c at 2 face 0 kind 0;paints side*9;");
        CHECK.due("years(2) of strokes", x.years(2), 2);
        CHECK.due("kept(0, 1)", x.kept(0, 1), 1);
        CHECK.due("kept(0, 2)", x.kept(0, 2), 0);
    }
}
