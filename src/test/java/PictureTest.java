/** Promises 33 to 35: image, octet, on. */
public final class PictureTest {
    private static final Check CHECK = new Check("PictureTest");
    private static final String THREE = "terrace 5;soul a at 4 face 3 kind 4;soul b at 1 face 6 kind 1;soul c at 0 face 2 kind 8;"
            + "thinks a of b 2;thinks b of a 7;thinks c of b 9;paints look-5;minds thinks;";

    public static void main(String[] args) {
        written();
        octets();
        readBack();
        refused();
        lastYear();
        eight();
        CHECK.finish();
    }

    /** Puts the check that is due at the end of the bytes. */
    static void mend(int[] bytes) {
        int c = 149;
        for (int k = 0; k < bytes.length - 1; k++) {
            c = (3 * c + bytes[k]) % 251;
        }
        bytes[bytes.length - 1] = c;
    }

    private static void written() {
        Retouched x = Check.told(THREE);
        x.spare(1, 1);
        for (int i = 0; i < 3; i++) {
            x.years(100);
        }
        x.right(2);
        int[] due = {1, 44, 4, 30, 0, 2, 5, 1, 60 - 60, 1, 7, 5, 0, 20, 0, 5, 9, 0};
        mend(due);
        CHECK.due("image()", x.image(), 18);
        for (int k = 0; k < due.length; k++) {
            CHECK.due("octet(" + k + ")", x.octet(k), due[k]);
        }
        x = Check.told("terrace 5;soul a at 4 face 3 kind 4;");
        int[] one = {0, 0, 4, 30, 0, 0};
        mend(one);
        CHECK.due("image() of one", x.image(), 6);
        CHECK.due("octet(5) of one", x.octet(5), one[5]);
    }

    private static void octets() {
        Retouched x = Check.told(THREE);
        CHECK.due("octet(0) of none", x.octet(0), -1);
        x.image();
        CHECK.due("octet(1)", x.octet(1), 0);
        x.years(3);
        CHECK.due("octet(1) of the latest image", x.octet(1), 0);
        x.image();
        CHECK.due("octet(1) of a new image", x.octet(1), 3);
        CHECK.due("octet(18)", x.octet(18), -1);
        CHECK.due("octet(-1)", x.octet(-1), -1);
        CHECK.due("octet(most)", x.octet(Integer.MAX_VALUE), -1);
        Check.terrace(x, "terrace 2;");
        CHECK.due("octet(17) behind a new terrace", x.octet(17) >= 0, true);
        x.image();
        CHECK.due("octet(2) of a shorter one", x.octet(2), 86);
        CHECK.due("octet(3) of a shorter one", x.octet(3), -1);
    }

    private static void readBack() {
        Retouched x = Check.told(THREE);
        x.change(4, 2);
        x.spare(0, 1);
        x.years(7);
        int[] image = Check.image(x);
        Retouched y = Check.told(THREE);
        y.years(100);
        y.change(0, 1);
        CHECK.due("has(7) ahead", y.has(7), 2);
        CHECK.due("on()", Check.on(y, image), true);
        CHECK.due("the tape goes", y.end(1), false);
        CHECK.due("has(2)", y.has(2), 7);
        CHECK.due("has(7)", y.has(7), 0);
        CHECK.due("has(9)", y.has(9), 0);
        CHECK.due("undo()", y.undo(), false);
        for (int h = 0; h < 5; h++) {
            CHECK.due("house(" + h + ")", y.house(h), x.house(h));
        }
        for (int p = 0; p < 3; p++) {
            for (int what = 0; what < 7; what++) {
                CHECK.due("person(" + p + ", " + what + ")", y.person(p, what), x.person(p, what));
            }
            for (int of = 0; of < 3; of++) {
                CHECK.due("thinks(" + p + ", " + of + ")", y.thinks(p, of), x.thinks(p, of));
            }
        }
        int[] again = Check.image(y);
        for (int k = 0; k < image.length; k++) {
            CHECK.due("octet(" + k + ") again", again[k], image[k]);
        }
        CHECK.due("right(0) by the true face", y.right(1), true);
        CHECK.due("person(1, 1)", y.person(1, 1), 60);
    }

    private static void refuse(int at, int octet) {
        Retouched x = Check.told(THREE);
        x.years(4);
        int[] image = Check.image(x);
        int[] spoiled = image.clone();
        spoiled[at] = octet;
        mend(spoiled);
        CHECK.due("on() with " + octet + " at " + at, Check.on(x, spoiled), false);
        stays(x, image);
    }

    private static void stays(Retouched x, int[] image) {
        CHECK.due("status(5)", x.status(5), 1);
        CHECK.due("the tape goes", x.end(1), false);
        CHECK.due("has(9) stays", x.has(9), 1);
        int[] again = Check.image(x);
        for (int k = 0; k < image.length; k++) {
            CHECK.due("octet(" + k + ") stays", again[k], image[k]);
        }
        for (int h = 0; h < 5; h++) {
            int lodger = x.house(h);
            CHECK.due("the house of who lives in " + h, lodger < 0 ? h : x.person(lodger, 0), h);
        }
    }

    /** Bytes of three people: 2 the first's house, 3 portrait, 4 spares, 5 and 6 thoughts; 7 the second's house. */
    private static void refused() {
        refuse(0, 4);
        refuse(0, 255);
        refuse(2, 5);
        refuse(2, 255);
        refuse(2, 1);
        refuse(7, 0);
        refuse(12, 4);
        refuse(3, 100);
        refuse(4, 2);
        refuse(5, 10);
        refuse(6, 255);
        refuse(16, 10);
        for (int cut = 0; cut <= 2; cut++) {
            Retouched x = Check.told(THREE);
            x.years(4);
            int[] image = Check.image(x);
            // One with a wrong check, one too short, one too long, with a check that is right.
            int[] spoiled = java.util.Arrays.copyOf(image, image.length - 1 + cut);
            if (cut == 1) {
                spoiled[17] ^= 1;
            } else {
                mend(spoiled);
            }
            CHECK.due("on() of kind " + cut, Check.on(x, spoiled), false);
            stays(x, image);
        }
        Retouched x = Check.told(THREE);
        CHECK.due("on() of an empty tape", x.on(), false);
        x = new Retouched();
        CHECK.due("on() without a terrace", Check.on(x, 0, 0, 86), false);
        CHECK.due("the tape goes", x.end(1), false);
        x = Check.told("terrace 2;");
        CHECK.due("on() of nobody", Check.on(x, 0, 0, 86), true);
    }

    private static void lastYear() {
        Retouched x = Check.told(THREE);
        int[] image = Check.image(x);
        image[0] = 3;
        image[1] = 999 - 768;
        mend(image);
        CHECK.due("on() of the year 999", Check.on(x, image), true);
        CHECK.due("has(2)", x.has(2), 999);
        image[1]++;
        mend(image);
        CHECK.due("on() of the year 1000", Check.on(x, image), false);
        CHECK.due("has(2)", x.has(2), 999);
        image[1] = 0;
        image[3] = 99;
        image[4] = 1;
        image[5] = 9;
        mend(image);
        CHECK.due("on() of the most", Check.on(x, image), true);
        CHECK.due("has(2)", x.has(2), 768);
        CHECK.due("person(0, 1)", x.person(0, 1), 99);
        CHECK.due("person(0, 4)", x.person(0, 4), 1);
        CHECK.due("thinks(0, 1)", x.thinks(0, 1), 9);
    }

    private static void eight() {
        StringBuilder text = new StringBuilder("terrace 9;");
        for (int i = 0; i < 8; i++) {
            text.append("soul ").append((char) ('a' + i)).append(" at ").append(8 - i).append(" face 1 kind 1;");
        }
        Retouched x = Check.told(text + "thinks h of g 1;");
        int[] image = Check.image(x);
        CHECK.due("image() of eight", image.length, 83);
        CHECK.due("octet(81)", image[81], 1);
        x.change(0, 8);
        CHECK.due("on()", Check.on(x, image), true);
        CHECK.due("house(0)", x.house(0), -1);
        CHECK.due("house(8)", x.house(8), 0);
    }
}
