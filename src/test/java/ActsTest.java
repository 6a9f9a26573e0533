/** Promises 25 to 31: change, right, spare, years, chance, undo, seed. */
public final class ActsTest {
    private static final Check CHECK = new Check("ActsTest");
    private static final String THREE = "terrace 5;soul a at 0 face 3 kind 4;soul b at 1 face 6 kind 1;soul c at 3 face 2 kind 8;"
            + "thinks a of b 2;thinks b of a 7;";

    public static void main(String[] args) {
        change();
        right();
        spare();
        years();
        lastYear();
        chance();
        slips();
        undo();
        undoMany();
        seed();
        withoutTerrace();
        CHECK.finish();
    }

    private static void refusedChange(Retouched x, int one, int other) {
        int before = x.status(2);
        CHECK.due("change(" + one + ", " + other + ")", x.change(one, other), false);
        CHECK.due("status(2)", x.status(2), before + 1);
        CHECK.due("has(9)", x.has(9), 0);
    }

    private static void change() {
        Retouched x = Check.told(THREE);
        refusedChange(x, 2, 4);
        refusedChange(x, 0, 0);
        refusedChange(x, 2, 2);
        refusedChange(x, 0, 5);
        refusedChange(x, 5, 0);
        refusedChange(x, -1, 0);
        refusedChange(x, 0, -1);
        refusedChange(x, Integer.MAX_VALUE, Integer.MIN_VALUE);
        CHECK.due("change(0, 3)", x.change(0, 3), true);
        houses(x, 2, 1, -1, 0, -1);
        CHECK.due("change(4, 1)", x.change(4, 1), true);
        houses(x, 2, -1, -1, 0, 1);
        CHECK.due("change(0, 1)", x.change(0, 1), true);
        houses(x, -1, 2, -1, 0, 1);
        CHECK.due("person(0, 6)", x.person(0, 6), 1);
        CHECK.due("person(0, 1) stays", x.person(0, 1), 30);
        CHECK.due("thinks(0, 1) stays", x.thinks(0, 1), 2);
        CHECK.due("has(9)", x.has(9), 3);
    }

    private static void houses(Retouched x, int... due) {
        for (int h = 0; h < due.length; h++) {
            CHECK.due("house(" + h + ")", x.house(h), due[h]);
            if (due[h] >= 0) {
                CHECK.due("person(" + due[h] + ", 0)", x.person(due[h], 0), h);
            }
        }
    }

    private static void right() {
        Retouched x = Check.told(THREE + "paints look-1;");
        CHECK.due("right(0) of one that is so", x.right(0), false);
        CHECK.due("right(3)", x.right(3), false);
        CHECK.due("right(-1)", x.right(-1), false);
        CHECK.due("status(2)", x.status(2), 3);
        x.years(4);
        CHECK.due("person(0, 1)", x.person(0, 1), 26);
        CHECK.due("right(0)", x.right(0), true);
        CHECK.due("person(0, 1)", x.person(0, 1), 30);
        CHECK.due("person(1, 1) stays", x.person(1, 1), 56);
        CHECK.due("right(0) once more", x.right(0), false);
        CHECK.due("right(2), whom nobody painted", x.right(2), false);
        CHECK.due("has(9)", x.has(9), 2);
        CHECK.due("status(2)", x.status(2), 5);
    }

    private static void spare() {
        Retouched x = Check.told(THREE + "paints look-1;minds 0;");
        CHECK.due("spare(1, 0) of one who paints", x.spare(1, 0), false);
        CHECK.due("spare(1, 2)", x.spare(1, 2), false);
        CHECK.due("spare(1, -1)", x.spare(1, -1), false);
        CHECK.due("spare(3, 1)", x.spare(3, 1), false);
        CHECK.due("spare(-1, 1)", x.spare(-1, 1), false);
        CHECK.due("status(2)", x.status(2), 5);
        CHECK.due("spare(1, 1)", x.spare(1, 1), true);
        CHECK.due("spare(1, 1) once more", x.spare(1, 1), false);
        x.years(3);
        CHECK.due("a is not painted", x.person(0, 1), 30);
        CHECK.due("a thinks as before", x.thinks(0, 1), 2);
        CHECK.due("b is painted", x.person(1, 1), 57);
        CHECK.due("b thinks otherwise", x.thinks(1, 0), 0);
        CHECK.due("spare(1, 0)", x.spare(1, 0), true);
        x.years(1);
        CHECK.due("a is painted", x.person(0, 1), 29);
        CHECK.due("has(9)", x.has(9), 4);
    }

    private static void years() {
        Retouched x = Check.told(THREE + "paints look-7;");
        CHECK.due("years(0)", x.years(0), -1);
        CHECK.due("years(101)", x.years(101), -1);
        CHECK.due("years(-1)", x.years(-1), -1);
        CHECK.due("years(most)", x.years(Integer.MAX_VALUE), -1);
        CHECK.due("status(3)", x.status(3), 4);
        CHECK.due("has(2)", x.has(2), 0);
        CHECK.due("has(9)", x.has(9), 0);
        CHECK.due("years(4)", x.years(4), 0);
        CHECK.due("person(0, 1)", x.person(0, 1), 2);
        CHECK.due("years(1)", x.years(1), 1);
        CHECK.due("years(100)", x.years(100), 1);
        CHECK.due("has(2)", x.has(2), 105);
        CHECK.due("has(9)", x.has(9), 3);
        CHECK.due("kept(1, 0)", x.kept(1, 0), 8);
        CHECK.due("status(3)", x.status(3), 4);
        CHECK.due("years(1) of nobody", Check.told("terrace 2;").years(1), 0);
    }

    private static void lastYear() {
        Retouched x = Check.told(THREE + "slip 100;");
        for (int i = 0; i < 9; i++) {
            x.years(100);
        }
        CHECK.due("years(100) beyond 999", x.years(100), -1);
        CHECK.due("chance(100) beyond 999", x.chance(100), -1);
        CHECK.due("status(3)", x.status(3), 2);
        CHECK.due("has(2)", x.has(2), 900);
        CHECK.due("has(9)", x.has(9), 9);
        CHECK.due("years(98)", x.years(98), 0);
        CHECK.due("chance(1)", x.chance(1), 1);
        CHECK.due("has(2)", x.has(2), 999);
        CHECK.due("years(1) in the last year", x.years(1), -1);
        CHECK.due("chance(1) in the last year", x.chance(1), -1);
        CHECK.due("status(3)", x.status(3), 4);
        CHECK.due("has(2)", x.has(2), 999);
    }

    /** The draws by the document's own words. */
    private static final class Draws {
        private long seed;

        Draws(long seed) {
            this.seed = seed;
        }

        int draw(int m) {
            seed = (1103515245L * seed + 12345) % 2147483648L;
            return (int) (seed / 64 % m);
        }
    }

    private static void chance() {
        for (int seed : new int[] {1, 0, 77, 2147483647}) {
            Retouched x = Check.told(THREE + "slip 40;");
            if (seed != 1) {
                x.seed(seed);
            }
            Draws draws = new Draws(seed);
            int[] looks = {30, 60, 20};
            for (int n = 1; n <= 30; n += 3) {
                int slips = 0;
                for (int i = 0; i < n; i++) {
                    if (draws.draw(100) < 40) {
                        slips++;
                        int person = draws.draw(3);
                        looks[person] = draws.draw(100);
                    }
                }
                CHECK.due("chance(" + n + ") by " + seed, x.chance(n), slips);
                for (int p = 0; p < 3; p++) {
                    CHECK.due("person(" + p + ", 1)", x.person(p, 1), looks[p]);
                }
            }
        }
    }

    private static void slips() {
        Retouched x = Check.told(THREE + "slip 100;slip 0;");
        CHECK.due("chance(100) without slips", x.chance(100), 0);
        CHECK.due("has(2)", x.has(2), 100);
        CHECK.due("has(9) of one act", x.has(9), 1);
        CHECK.due("has(6)", x.has(6), 110);
        CHECK.due("chance(0)", x.chance(0), -1);
        CHECK.due("chance(101)", x.chance(101), -1);
        CHECK.due("chance(-1)", x.chance(-1), -1);
        CHECK.due("status(3)", x.status(3), 3);
        // A draw is made each year even where no slip can be: a hundred are behind us, the next is the 101st.
        Draws draws = new Draws(1);
        for (int i = 0; i < 100; i++) {
            draws.draw(100);
        }
        Check.terrace(x, THREE + "slip 100;");
        draws.draw(100);
        int person = draws.draw(3);
        int look = draws.draw(100);
        CHECK.due("chance(1)", x.chance(1), 1);
        CHECK.due("the portrait that slipped", x.person(person, 1), look);
        // Without people one draw is made each year, and there is no slip.
        x = Check.told("terrace 2;slip 100;");
        draws = new Draws(1);
        draws.draw(100);
        draws.draw(100);
        CHECK.due("chance(2) of nobody", x.chance(2), 0);
        Check.terrace(x, THREE + "slip 100;");
        draws.draw(100);
        person = draws.draw(3);
        look = draws.draw(100);
        x.chance(1);
        CHECK.due("the portrait that slipped", x.person(person, 1), look);
        // The slip is ahead of the year's painting, and a curtain by it is not kept.
        x = Check.told("terrace 2;soul a at 0 face 9 kind 0;soul b at 1 face 9 kind 0;paints look;slip 100;");
        x.chance(100);
        CHECK.due("has(7) by slips", x.has(7), 0);
        x = Check.told("terrace 2;soul a at 0 face 9 kind 0;soul b at 1 face 9 kind 0;paints 5;slip 100;");
        x.chance(1);
        CHECK.due("has(6) behind a painted year", x.has(6), 10);
    }

    private static void undo() {
        Retouched x = Check.told(THREE + "paints look-10;minds thinks+1;slip 50;");
        CHECK.due("undo() of nothing", x.undo(), false);
        CHECK.due("status(4)", x.status(4), 1);
        int[][] images = new int[7][];
        int[] kept = new int[7];
        for (int i = 0; i < 6; i++) {
            images[i] = Check.image(x);
            kept[i] = x.has(7);
            switch (i) {
                case 0: x.change(0, 4); break;
                case 1: x.spare(1, 1); break;
                case 2: x.change(0, 1); break;
                case 3: x.change(4, 1); break;
                case 4: x.years(8); break;
                default: x.chance(9); break;
            }
        }
        CHECK.due("has(9)", x.has(9), 6);
        CHECK.due("has(7) ahead of undo()", x.has(7) > 0, true);
        for (int i = 5; i >= 0; i--) {
            CHECK.due("undo() " + i, x.undo(), true);
            int[] image = Check.image(x);
            for (int k = 0; k < image.length; k++) {
                CHECK.due("octet(" + k + ") behind undo() " + i, image[k], images[i][k]);
            }
            CHECK.due("has(7) behind undo() " + i, x.has(7), kept[i]);
            CHECK.due("has(9) behind undo() " + i, x.has(9), i);
        }
        houses(x, 0, 1, -1, 2, -1);
        CHECK.due("undo()", x.undo(), false);
        CHECK.due("status(4)", x.status(4), 2);
        // Refused acts can't be undone.
        x.right(0);
        x.years(0);
        CHECK.due("undo() behind refused acts", x.undo(), false);
    }

    private static void undoMany() {
        // Two curtains come every other year; what is told as kept must be as it was, the older ones too.
        Retouched x = Check.told("terrace 2;soul b at 1 face 1 kind 0;soul a at 0 face 1 kind 0;paints 1-min(look,1);");
        for (int i = 0; i < 25; i++) {
            x.years(4);
        }
        CHECK.due("has(9)", x.has(9), 20);
        CHECK.due("kept(0, 0)", x.kept(0, 0), 60);
        for (int i = 0; i < 10; i++) {
            CHECK.due("undo()", x.undo(), true);
        }
        CHECK.due("kept(0, 0) behind 10 undone", x.kept(0, 0), 20);
        CHECK.due("kept(39, 0) behind 10 undone", x.kept(39, 0), 58);
        x.years(2);
        CHECK.due("kept(39, 0)", x.kept(39, 0), 60);
        CHECK.due("has(9)", x.has(9), 11);
        for (int i = 0; i < 11; i++) {
            CHECK.due("undo()", x.undo(), true);
        }
        CHECK.due("undo() of the 21st", x.undo(), false);
        CHECK.due("has(2)", x.has(2), 20);
        CHECK.due("has(7)", x.has(7), 20);
        CHECK.due("kept(19, 0)", x.kept(19, 0), 18);
    }

    private static void seed() {
        Retouched x = Check.told(THREE + "slip 100;");
        CHECK.due("seed(-1)", x.seed(-1), false);
        CHECK.due("seed(least)", x.seed(Integer.MIN_VALUE), false);
        CHECK.due("status(5)", x.status(5), 2);
        CHECK.due("seed(0)", x.seed(0), true);
        CHECK.due("seed(most)", x.seed(Integer.MAX_VALUE), true);
        CHECK.due("has(9): it is no act", x.has(9), 0);
        // The seed stays behind undo(): the same call draws on.
        Draws draws = new Draws(5);
        x.seed(5);
        x.chance(1);
        draws.draw(100);
        draws.draw(3);
        draws.draw(100);
        x.undo();
        CHECK.due("has(6)", x.has(6), 110);
        x.chance(1);
        draws.draw(100);
        int person = draws.draw(3);
        CHECK.due("the portrait that slipped", x.person(person, 1), draws.draw(100));
    }

    private static void withoutTerrace() {
        Retouched x = new Retouched();
        CHECK.due("years(1)", x.years(1), -1);
        CHECK.due("chance(1)", x.chance(1), -1);
        CHECK.due("status(3)", x.status(3), 2);
        CHECK.due("change(0, 1)", x.change(0, 1), false);
        CHECK.due("right(0)", x.right(0), false);
        CHECK.due("spare(0, 1)", x.spare(0, 1), false);
        CHECK.due("status(2)", x.status(2), 3);
        CHECK.due("seed(9)", x.seed(9), true);
        CHECK.due("undo()", x.undo(), false);
    }
}
