/** Promises 21 to 24: see, thoughts, faces, tells. */
public final class SeenTest {
    private static final Check CHECK = new Check("SeenTest");
    // Each is painted by what the painter thinks of him: a by b (7), b by a (2); c lives apart.
    private static final String THREE = "terrace 5;soul a at 0 face 3 kind 4;soul b at 1 face 6 kind 1;soul c at 4 face 2 kind 8;"
            + "thinks a of b 2;thinks b of a 7;";

    public static void main(String[] args) {
        seeing();
        thoughts();
        faces();
        tells();
        rowsStay();
        nearTheLastYear();
        CHECK.finish();
    }

    private static void refused(Retouched x, int rows, int... bytes) {
        int before = x.status(1);
        CHECK.due("see() of " + bytes.length + " bytes", Check.see(x, bytes), -1);
        CHECK.due("status(1)", x.status(1), before + 1);
        CHECK.due("has(8) stays", x.has(8), rows);
        CHECK.due("the tape goes", x.end(1), false);
    }

    private static void seeing() {
        Retouched x = Check.told(THREE);
        CHECK.due("see() of a row", Check.see(x, 30, 2, 99), 1);
        CHECK.due("the tape goes", x.end(1), false);
        CHECK.due("see() of two rows", Check.see(x, 0, 0, 30, 1, 1, 0), 2);
        CHECK.due("has(8)", x.has(8), 2);
        refused(x, 2);
        refused(x, 2, 1);
        refused(x, 2, 1, 0);
        refused(x, 2, 1, 0, 5, 1);
        refused(x, 2, 31, 0, 5);
        refused(x, 2, 255, 0, 5);
        refused(x, 2, 1, 3, 5);
        refused(x, 2, 1, 255, 5);
        refused(x, 2, 1, 0, 100);
        refused(x, 2, 1, 0, 5, 1, 0, 100);
        int[] sixteen = new int[48];
        CHECK.due("see() of 16 rows", Check.see(x, sixteen), 16);
        refused(x, 16, new int[51]);
        refused(new Retouched(), 0, 0, 0, 0);
    }

    private static void thoughts() {
        Retouched x = Check.told(THREE + "paints look+thinks;");
        CHECK.due("thoughts(1, 0) of nothing seen", x.thoughts(1, 0), 1023);
        // a is 30 and 7 more each year, by what b thinks.
        Check.see(x, 1, 0, 34);
        CHECK.due("thoughts(1, 0)", x.thoughts(1, 0), 1 << 4);
        CHECK.due("thoughts(0, 1) that has nothing to do with it", x.thoughts(0, 1), 0);
        CHECK.due("thinks(1, 0) stays", x.thinks(1, 0), 7);
        Check.see(x, 1, 0, 37);
        CHECK.due("thoughts(1, 0)", x.thoughts(1, 0), 1 << 7);
        CHECK.due("thoughts(0, 1)", x.thoughts(0, 1), 1023);
        Check.see(x, 10, 0, 99);
        CHECK.due("thoughts(1, 0) of 7, 8, 9", x.thoughts(1, 0), 1 << 7 | 1 << 8 | 1 << 9);
        Check.see(x, 10, 0, 99, 2, 0, 46);
        CHECK.due("thoughts(1, 0) of two rows", x.thoughts(1, 0), 1 << 8);
        Check.see(x, 2, 0, 46, 1, 0, 37);
        CHECK.due("thoughts(1, 0) of rows that can't both be", x.thoughts(1, 0), 0);
        Check.see(x, 0, 0, 30);
        CHECK.due("thoughts(1, 0) of now", x.thoughts(1, 0), 1023);
        Check.see(x, 0, 0, 31);
        CHECK.due("thoughts(1, 0) of what is not so", x.thoughts(1, 0), 0);
        Check.see(x, 30, 2, 20);
        CHECK.due("thoughts(2, 0)", x.thoughts(2, 0), 1023);
        CHECK.due("thoughts(0, 0)", x.thoughts(0, 0), -1);
        CHECK.due("thoughts(0, 3)", x.thoughts(0, 3), -1);
        CHECK.due("thoughts(-1, 0)", x.thoughts(-1, 0), -1);
        // What a thinks of b makes b's portrait, by whose gain b thinks of a, who paints a the year behind it.
        x = Check.told(THREE + "paints look+thinks;minds gain;");
        Check.see(x, 2, 0, 37 + 3);
        CHECK.due("thoughts(0, 1) by the second year", x.thoughts(0, 1), 0);
        Check.see(x, 2, 0, 37 + 7);
        CHECK.due("thoughts(0, 1) by the second year", x.thoughts(0, 1), 1023);
    }

    private static void faces() {
        Retouched x = Check.told(THREE + "paints look+face;");
        CHECK.due("faces(0) of nothing seen", x.faces(0), 1023);
        // His portrait stays 30, as it is now.
        Check.see(x, 1, 0, 35);
        CHECK.due("faces(0)", x.faces(0), 1 << 5);
        CHECK.due("faces(1)", x.faces(1), 0);
        CHECK.due("person(0, 2) stays", x.person(0, 2), 3);
        Check.see(x, 1, 0, 33);
        CHECK.due("faces(0)", x.faces(0), 1 << 3);
        CHECK.due("faces(1)", x.faces(1), 1023);
        Check.see(x, 10, 0, 99);
        CHECK.due("faces(0) of 7, 8, 9", x.faces(0), 1 << 7 | 1 << 8 | 1 << 9);
        Check.see(x, 0, 0, 30);
        CHECK.due("faces(0) of now", x.faces(0), 1023);
        Check.see(x, 0, 0, 40);
        CHECK.due("faces(0) of what is not so", x.faces(0), 0);
        CHECK.due("faces(3)", x.faces(3), -1);
        CHECK.due("faces(-1)", x.faces(-1), -1);
    }

    private static void tells() {
        Retouched x = Check.told(THREE + "paints look+thinks;");
        // Each thought gives a portrait of its own in the first year.
        CHECK.due("tells(1, 0, 0)", x.tells(1, 0, 0), 1);
        CHECK.due("tells(1, 0, 1)", x.tells(1, 0, 1), 1);
        CHECK.due("tells(1, 0, 2)", x.tells(1, 0, 2), -1);
        CHECK.due("tells(1, 0, -1)", x.tells(1, 0, -1), -1);
        CHECK.due("tells(0, 0, 0)", x.tells(0, 0, 0), -1);
        CHECK.due("tells(0, 3, 0)", x.tells(0, 3, 0), -1);
        CHECK.due("tells(3, 0, 0)", x.tells(3, 0, 0), -1);
        // Of one who lives apart no year tells anything: the first one, with all ten left.
        CHECK.due("tells(0, 2, 0)", x.tells(0, 2, 0), 1);
        CHECK.due("tells(0, 2, 1)", x.tells(0, 2, 1), 10);
        Check.see(x, 0, 0, 31);
        CHECK.due("tells(1, 0, 0) without a thought", x.tells(1, 0, 0), -1);
        CHECK.due("tells(1, 0, 1) without a thought", x.tells(1, 0, 1), -1);
        Check.see(x, 10, 0, 99);
        CHECK.due("tells(1, 0, 1) of three", x.tells(1, 0, 1), 1);
        for (int only = 0; only <= 9; only++) {
            Check.see(x, 1, 0, 30 + only);
            CHECK.due("thoughts(1, 0) of " + only, x.thoughts(1, 0), 1 << only);
            CHECK.due("tells(1, 0, 0) of " + only, x.tells(1, 0, 0), 1);
            CHECK.due("tells(1, 0, 1) of " + only, x.tells(1, 0, 1), 1);
        }
        // A step of four: 0 to 3, 4 to 7, 8 and 9 are alike in the first year and ever on.
        x = Check.told(THREE + "paints look+thinks/4;");
        CHECK.due("tells(1, 0, 0) by steps", x.tells(1, 0, 0), 1);
        CHECK.due("tells(1, 0, 1) by steps", x.tells(1, 0, 1), 4);
        // The fifth year ahead leaves six at the most, the sixth four, the seventh and all behind it two.
        x = Check.told(THREE + "paints look+thinks*max(0,min(1,year-3))/max(1,7-year)/2*2;");
        CHECK.due("tells(1, 0, 0) late", x.tells(1, 0, 0), 7);
        CHECK.due("tells(1, 0, 1) late", x.tells(1, 0, 1), 2);
        x = Check.told(THREE + "paints look*min(1,max(0,30-year))+thinks*max(0,min(1,year-28));");
        CHECK.due("tells(1, 0, 0) in the thirtieth", x.tells(1, 0, 0), 30);
        CHECK.due("tells(1, 0, 1) in the thirtieth", x.tells(1, 0, 1), 1);
        x = Check.told(THREE + "paints look+thinks*max(0,min(1,year-29));");
        CHECK.due("tells(1, 0, 0) beyond", x.tells(1, 0, 0), 1);
        CHECK.due("tells(1, 0, 1) beyond", x.tells(1, 0, 1), 10);
    }

    private static void rowsStay() {
        Retouched x = Check.told(THREE + "paints look+thinks;");
        Check.see(x, 1, 0, 37);
        int[] image = Check.image(x);
        x.years(1);
        CHECK.due("has(8) behind a year", x.has(8), 1);
        CHECK.due("thoughts(1, 0) of a year ahead", x.thoughts(1, 0), 1);
        x.undo();
        CHECK.due("thoughts(1, 0) behind undo()", x.thoughts(1, 0), 128);
        Check.on(x, image);
        CHECK.due("has(8) behind on()", x.has(8), 1);
        Check.terrace(x, "terrace 2;");
        CHECK.due("has(8) behind terrace()", x.has(8), 0);
    }

    private static void nearTheLastYear() {
        Retouched x = Check.told(THREE + "paints look;");
        int[] image = Check.image(x);
        image[0] = 3;
        image[1] = 997 - 768;
        PictureTest.mend(image);
        CHECK.due("on()", Check.on(x, image), true);
        CHECK.due("has(2)", x.has(2), 997);
        Check.see(x, 2, 0, 30);
        CHECK.due("thoughts(1, 0) of the last year", x.thoughts(1, 0), 1023);
        CHECK.due("faces(1) of the last year", x.faces(1), 1023);
        Check.see(x, 2, 0, 30, 3, 0, 30);
        CHECK.due("thoughts(1, 0) beyond", x.thoughts(1, 0), 0);
        CHECK.due("faces(1) beyond", x.faces(1), 0);
        CHECK.due("tells(1, 0, 0) beyond", x.tells(1, 0, 0), -1);
        Check.see(x, 0, 0, 30);
        x.years(2);
        CHECK.due("thoughts(1, 0) in the last year", x.thoughts(1, 0), 1023);
        CHECK.due("tells(1, 0, 0) in the last year", x.tells(1, 0, 0), -1);
        CHECK.due("tells(1, 0, 1) in the last year", x.tells(1, 0, 1), -1);
        // Thoughts tell apart in the third year ahead alone, and it does not come.
        x = Check.told(THREE + "paints look+thinks*max(0,year-998);");
        Check.on(x, image);
        CHECK.due("tells(1, 0, 1) of two years", x.tells(1, 0, 1), 10);
    }
}
