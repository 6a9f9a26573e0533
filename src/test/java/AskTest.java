/** Promises 32 and 36: ask, status. A bar in a text stands where the fault is due. */
public final class AskTest {
    private static final Check CHECK = new Check("AskTest");
    private static final long NOTHING = -1000000000000000L;
    private static final String THREE = "terrace 5;soul a at 4 face 3 kind 4;soul b at 1 face 6 kind 1;soul c at 0 face 0 kind 8;"
            + "thinks a of b 2;thinks b of a 7;thinks c of a 9;";

    public static void main(String[] args) {
        words();
        wordsBehindActs();
        verbs();
        thinksAndBack();
        sums();
        ofNobody();
        faults();
        withoutTerrace();
        status();
        CHECK.finish();
    }

    private static void due(String text, long want) {
        Retouched x = Check.told(THREE);
        x.spare(1, 1);
        x.years(2);
        CHECK.due("ask() of " + text, Check.ask(x, text), want);
        CHECK.due("fault(0) of " + text, x.fault(0), 0);
        CHECK.due("fault(1) of " + text, x.fault(1), -1);
        CHECK.due("the tape goes", x.end(1), false);
    }

    private static void words() {
        due("total number", 3);
        due("total house", 5);
        due("total look", 90);
        due("total face", 9);
        due("total kind", 13);
        due("total spares", 1);
        due("total year", 6);
        due("first house=4", 0);
        due("first spares=1", 1);
        due("first look=0", 2);
        due("first number=2", 2);
    }

    /** Each word tells what is so now; face and kind stay the true ones, however one is painted. */
    private static void wordsBehindActs() {
        Retouched x = Check.told(THREE + "paints look+13;minds 4;");
        x.change(1, 3);
        x.years(3);
        x.spare(2, 1);
        // a is at 4 and b at 3 beside him: each was painted three times by the other one; c is alone at 0.
        long[][] due = {{0, 4, 69, 3, 4, 0, 3}, {1, 3, 99, 6, 1, 0, 3}, {2, 0, 0, 0, 8, 1, 3}};
        String[] words = {"number", "house", "look", "face", "kind", "spares", "year"};
        for (int p = 0; p < 3; p++) {
            for (int w = 0; w < words.length; w++) {
                String text = "total " + words[w] + "*(1-min(1,max(number-" + p + "," + p + "-number)))";
                CHECK.due("ask() of " + text, Check.ask(x, text), due[p][w]);
            }
        }
        CHECK.due("total thinks 0", Check.ask(x, "total thinks 0"), 4 + 9);
        CHECK.due("total back 0", Check.ask(x, "total back 0"), 4 + 5);
    }

    private static void verbs() {
        due("first all", 0);
        due("last all", 2);
        due("first face>0 and kind<4", 1);
        due("last face>0", 1);
        due("first face>6", -1);
        due("last face>6", -1);
        due("often all", 3);
        due("often face>2", 2);
        due("often not face>2", 1);
        due("often not all", 0);
        due("often [kind=1 or kind=8] and face=6", 1);
        due("total 1", 3);
        due("most kind", 8);
        due("least kind", 1);
        due("most 0-kind", -1);
        due("least 0-kind", -8);
        due("most look-100", -40);
        due("\n total\n( 1 ) \n", 3);
        due("total(1)", 3);
        due("often[all]", 3);
    }

    private static void thinksAndBack() {
        due("total thinks 0", 7 + 9);
        due("total thinks 1", 2 + 5);
        due("total thinks 2", 5 + 5);
        due("total back 0", 2 + 5);
        due("total back 1", 7 + 5);
        due("total back 2", 9 + 5);
        due("total thinks 3", 0);
        due("total thinks 9999", 0);
        due("total back (0-1)", 0);
        due("total thinks number", 0);
        due("first thinks 0=9", 2);
        due("total thinks 0+1", 7 + 9 + 3);
        due("total thinks (0+1)", 7);
        // b thinks 7 of a, c thinks 9 of a: there are no such people; a: 0 of himself, so what a thinks of a.
        due("total thinks thinks 0", 0);
        // a thinks 2 of b, c thinks 5 of b, b 0 of himself; so: what a thinks of c, c of none, b of a.
        due("total thinks thinks 1", 5 + 0 + 7);
        // Of a what b thinks of him, of b what c thinks of him, of c nobody's.
        due("total back (number+1)", 7 + 5);
        due("total thinks max(0,number-1)*10", (7 + 5) * 10);
        due("total back min(1,2)", 7 + 5);
    }

    private static void sums() {
        due("total 9999*9999", 3000000);
        due("total 0-9999*9999", -3000000);
        due("most 9999*9999+1", 1000000);
        due("total 7/2*2", 18);
        due("total (0-7)/2", -12);
        due("total 7/(face-6)", -3 + 0 - 2);
        due("often 0-1<0", 3);
    }

    private static void ofNobody() {
        Retouched x = Check.told("terrace 3;");
        CHECK.due("first", Check.ask(x, "first all"), -1);
        CHECK.due("last", Check.ask(x, "last all"), -1);
        CHECK.due("often", Check.ask(x, "often all"), 0);
        CHECK.due("total", Check.ask(x, "total 5"), 0);
        CHECK.due("most", Check.ask(x, "most 5"), 0);
        CHECK.due("least", Check.ask(x, "least 5"), 0);
        CHECK.due("a fault", Check.ask(x, "least"), NOTHING);
    }

    private static void fault(int kind, String marked) {
        int place = marked.indexOf('|');
        String text = marked.substring(0, place) + marked.substring(place + 1);
        Retouched x = Check.told(THREE);
        CHECK.due("ask() of " + text, Check.ask(x, text), NOTHING);
        CHECK.due("fault(0) of " + text, x.fault(0), kind);
        CHECK.due("fault(1) of " + text, x.fault(1), place);
        CHECK.due("the tape goes", x.end(1), false);
        CHECK.due("nothing is refused", x.status(1), 0);
    }

    private static void faults() {
        fault(1, "|");
        fault(1, "  |");
        fault(1, "|5");
        fault(1, "|sum 1");
        fault(1, "|totals 1");
        fault(1, "|Total 1");
        fault(1, "|thinks 1");
        fault(1, "total|");
        fault(1, "total \n|");
        fault(1, "total|1");
        fault(1, "total |all");
        fault(1, "total |x");
        fault(1, "total |side");
        fault(1, "total |gain");
        fault(1, "total |ann");
        fault(1, "total |a");
        fault(1, "total 1|;");
        fault(1, "total 1 |total 1");
        fault(1, "total 1 |1");
        fault(1, "total 1|<2");
        fault(1, "total 1234|5");
        fault(1, "total look|5");
        fault(1, "total thinks|");
        fault(1, "total thinks|1");
        fault(1, "total thinks |-1");
        fault(1, "total thinks |+1");
        fault(1, "total back |all");
        fault(1, "often 1|");
        fault(1, "often 1 |2");
        fault(1, "often all |all");
        fault(1, "often all|]");
        fault(1, "first [|");
        fault(1, "often |" + (char) 200);
        fault(1, "total look|\t");
        fault(4, "total ((((((|(1)))))))");
        fault(4, "total thinks thinks thinks thinks thinks thinks |thinks 1");
        fault(4, "total back back back back back back |back 1");
        fault(4, "total thinks back thinks back thinks back |(1)");
        fault(4, "often not not not not not not |not all");
        fault(4, "often not [not thinks (thinks |back (1))<1]");
        // Of nobody 0; so of a: 0, 7 and 9; so of nobody but for a himself; and so on.
        due("total thinks thinks thinks thinks thinks thinks 9", 7 + 9);
        due("total thinks thinks thinks thinks thinks 9", 0);
        due("total thinks 9+thinks 9+thinks 9+thinks 9+thinks 9+thinks 9+thinks 9+((((((1))))))", 3);
        due("total ((((((1))))))", 3);
        due("often not not not not not not all", 3);
        due("often not not not not not thinks 9<1", 0);
        fault(4, "often not not not not not not |thinks 9<1");
    }

    private static void withoutTerrace() {
        Retouched x = new Retouched();
        Check.terrace(x, "?");
        CHECK.due("fault(0)", x.fault(0), 1);
        CHECK.due("ask()", Check.ask(x, "total 1 1"), NOTHING);
        CHECK.due("fault(0) stays", x.fault(0), 1);
        CHECK.due("fault(1) stays", x.fault(1), 0);
        CHECK.due("the tape goes", x.end(1), false);
        x = new Retouched();
        CHECK.due("ask()", Check.ask(x, "total"), NOTHING);
        CHECK.due("fault(0) of none", x.fault(0), 0);
        CHECK.due("fault(1) of none", x.fault(1), -1);
    }

    private static void status() {
        Retouched x = Check.told(THREE);
        for (int i = 0; i < 2; i++) {
            x.end(-1);
        }
        for (int i = 0; i < 3; i++) {
            x.see();
        }
        x.terrace();
        for (int i = 0; i < 2; i++) {
            x.change(9, 9);
            x.right(9);
            x.spare(9, 9);
        }
        for (int i = 0; i < 4; i++) {
            x.years(0);
        }
        x.chance(0);
        for (int i = 0; i < 7; i++) {
            x.undo();
        }
        for (int i = 0; i < 4; i++) {
            x.seed(-1);
            x.on();
        }
        Check.ask(x, "?");
        x.later(9, 9);
        x.rest(99);
        int[] due = {2, 4, 6, 5, 7, 8};
        for (int what = 0; what < due.length; what++) {
            CHECK.due("status(" + what + ")", x.status(what), due[what]);
        }
        CHECK.due("status(6)", x.status(6), -1);
        CHECK.due("status(-1)", x.status(-1), -1);
        CHECK.due("status(most)", x.status(Integer.MAX_VALUE), -1);
        Check.terrace(x, THREE);
        CHECK.due("status(4) stays behind terrace()", x.status(4), 7);
    }
}
