/** Promises 4, 5 and 7: terrace, its faults, letter. A bar in a text stands where the fault is due. */
public final class TerraceTest {
    private static final Check CHECK = new Check("TerraceTest");
    private static final String TWO = "terrace 5;soul ann at 0 face 1 kind 2;soul bob at 1 face 3 kind 4;";

    public static void main(String[] args) {
        soundTexts();
        faultsOfTheText();
        faultsInFormulas();
        faultsOfNumbers();
        faultsOfNames();
        faultsOfDepth();
        faultsOfNumber();
        manyStatements();
        refusedTerrace();
        newTerrace();
        manyTerraces();
        longestTexts();
        faultCall();
        letters();
        CHECK.finish();
    }

    private static void sound(String text, int statements) {
        Retouched x = new Retouched();
        CHECK.due("terrace() of " + text, Check.terrace(x, text), statements);
        CHECK.due("fault(0) of " + text, x.fault(0), 0);
        CHECK.due("fault(1) of " + text, x.fault(1), -1);
    }

    private static void fault(int kind, String marked) {
        int place = marked.indexOf('|');
        String text = marked.substring(0, place) + marked.substring(place + 1);
        Retouched x = new Retouched();
        CHECK.due("terrace() of " + text, Check.terrace(x, text), -1);
        CHECK.due("fault(0) of " + text, x.fault(0), kind);
        CHECK.due("fault(1) of " + text, x.fault(1), place);
        CHECK.due("status(1) of " + text, x.status(1), 1);
        CHECK.due("has(0) of " + text, x.has(0), 0);
    }

    private static void soundTexts() {
        sound("terrace 2;", 1);
        sound("terrace 9;", 1);
        sound("terrace 0009;", 1);
        sound("\n terrace\n5 ; \n", 1);
        sound("terrace 5;slip 0;slip 100;slip 0100;", 4);
        sound("terrace 5;soul abcdef at 4 face 9 kind 0;", 2);
        sound("terrace 5;soul first at 0 face 0 kind 0;soul last at 1 face 0 kind 0;thinks last of first 9;", 4);
        sound(TWO + "thinks ann of bob 0;thinks ann of bob 9;", 5);
        sound("terrace 5;paints look;minds gain;feud all;", 4);
        sound("terrace 5;paints(look);", 2);
        sound("terrace 5;paints min(1,max(2 , 3))*face/kind-thinks+year+side;", 2);
        sound("terrace 5;minds face+kind+thinks+year+gain+9999+0000;", 2);
        sound("terrace 5;feud face<kind or thinks>back and year=0 or not[all and not all];", 2);
        sound("terrace 5;feud not not all;", 2);
        sound("terrace 5;feud[[all]or[all]];", 2);
    }

    private static void faultsOfTheText() {
        fault(1, "|");
        fault(1, " \n |");
        fault(1, "|x;");
        fault(1, "|;");
        fault(1, "|5;");
        fault(1, "|\tterrace 5;");
        fault(1, "|\rterrace 5;");
        fault(1, "|Terrace 5;");
        fault(1, "|terraces 5;");
        fault(1, "|terrac 5;");
        fault(1, "|terrac");
        fault(1, "|soul a at 0 face 1 kind 1;");
        fault(1, "terrace|");
        fault(1, "terrace |;");
        fault(1, "terrace|5;");
        fault(1, "terrace |five;");
        fault(1, "terrace 5|");
        fault(1, "terrace 5  \n|");
        fault(1, "terrace 5 |6;");
        fault(1, "terrace 5|x;");
        fault(1, "terrace 0000|5;");
        fault(1, "terrace 1234|5;");
        fault(1, "terrace 5;|;");
        fault(1, "terrace 5;|terrace 5;");
        fault(1, "terrace 5; |look;");
        fault(1, "terrace 5; |souls a;");
        fault(1, "terrace 5;|" + (char) 233 + ";");
        fault(1, "terrace 5;|" + (char) 0);
        fault(1, "terrace 5;soul|");
        fault(1, "terrace 5;soul |at at 0 face 1 kind 1;");
        fault(1, "terrace 5;soul |spares at 0 face 1 kind 1;");
        fault(1, "terrace 5;soul |terrace at 0 face 1 kind 1;");
        fault(1, "terrace 5;soul terrac|ey at 0 face 1 kind 1;");
        fault(1, "terrace 5;soul abcdef|gh at 0 face 1 kind 1;");
        fault(1, "terrace 5;soul |7 at 0 face 1 kind 1;");
        fault(1, "terrace 5;soul |A at 0 face 1 kind 1;");
        fault(1, "terrace 5;soul a|B at 0 face 1 kind 1;");
        fault(1, "terrace 5;soul a|1 at 0 face 1 kind 1;");
        fault(1, "terrace 5;soul a |on 0 face 1 kind 1;");
        fault(1, "terrace 5;soul a at|0 face 1 kind 1;");
        fault(1, "terrace 5;soul a at 0|face 1 kind 1;");
        fault(1, "terrace 5;soul a at 0 |kind 1 face 1;");
        fault(1, "terrace 5;soul a at 0 face 1 kind 1|");
        fault(1, "terrace 5;soul a at 0 face 1 kind 1 |soul b at 1 face 1 kind 1;");
        fault(1, "terrace 5;slip |;");
        fault(1, "terrace 5;slip |-1;");
        fault(1, "terrace 5;slip 5 |5;");
        fault(1, TWO + "thinks |of of bob 1;");
        fault(1, TWO + "thinks ann |bob 1;");
        fault(1, TWO + "thinks ann of bob|1;");
        fault(1, TWO + "thinks ann of bob |ann;");
        fault(1, TWO + "thinks abcdef|g of bob 1;");
    }

    private static void faultsInFormulas() {
        fault(1, "terrace 5;paints |;");
        fault(1, "terrace 5;paints |-1;");
        fault(1, "terrace 5;paints |gain;");
        fault(1, "terrace 5;paints |back;");
        fault(1, "terrace 5;paints |number;");
        fault(1, "terrace 5;paints |house;");
        fault(1, "terrace 5;paints |spares;");
        fault(1, "terrace 5;paints |all;");
        fault(1, "terrace 5;paints |[1];");
        fault(1, "terrace 5;minds |look;");
        fault(1, "terrace 5;minds |side;");
        fault(1, "terrace 5;minds |back;");
        fault(1, "terrace 5;feud |look<1;");
        fault(1, "terrace 5;feud |side=1;");
        fault(1, "terrace 5;feud |gain<1;");
        fault(1, "terrace 5;feud |ann<1;");
        fault(1, "terrace 5;feud |;");
        fault(1, "terrace 5;feud |or;");
        fault(1, "terrace 5;feud not |;");
        fault(1, "terrace 5;feud not|1<2;");
        fault(1, "terrace 5;feud thinks|;");
        fault(1, "terrace 5;feud 1<2|<3;");
        fault(1, "terrace 5;feud (|all);");
        fault(1, "terrace 5;feud (1|<2);");
        fault(1, "terrace 5;feud [1<2|);");
        fault(1, "terrace 5;feud [1<2|");
        fault(1, "terrace 5;feud 1<2 or|;");
        fault(1, "terrace 5;feud 1<2|or 1<3;");
        fault(1, "terrace 5;feud 1<2 |1<3;");
        fault(1, "terrace 5;feud all |all;");
        fault(1, "terrace 5;feud all|<2;");
        fault(1, "terrace 5;feud 1 |! 2;");
        fault(1, "terrace 5;paints look|<3;");
        fault(1, "terrace 5;paints look |look;");
        fault(1, "terrace 5;paints 1+|;");
        fault(1, "terrace 5;paints 1 +|+ 1;");
        fault(1, "terrace 5;paints (1|];");
        fault(1, "terrace 5;paints (|);");
        fault(1, "terrace 5;paints min|;");
        fault(1, "terrace 5;paints min|5;");
        fault(1, "terrace 5;paints min(1|;2);");
        fault(1, "terrace 5;paints max(1,2|,3);");
        fault(1, "terrace 5;paints 1234|5;");
        fault(1, "terrace 5;paints 0000|0;");
        fault(1, "terrace 5;paints 1|x;");
        fault(1, "terrace 5;paints look|5;");
        fault(1, "terrace 5;paints look|");
    }

    private static void faultsOfNumbers() {
        fault(2, "terrace |0;");
        fault(2, "terrace |1;");
        fault(2, "terrace |10;");
        fault(2, "terrace |9999;");
        fault(2, "terrace |1;?");
        fault(2, "terrace |1x");
        fault(2, "terrace 5;soul a at |5 face 1 kind 1;");
        fault(2, "terrace 5;soul a at |9999 face 1 kind 1;");
        fault(2, "terrace 5;soul a at 4 face |10 kind 1;");
        fault(2, "terrace 5;soul a at 4 face 9 kind |10;");
        fault(2, TWO + "soul cid at |1 face 1 kind 1;");
        fault(2, TWO + "soul cid at |01 face 1 kind 1;");
        fault(2, TWO + "thinks ann of bob |10;");
        fault(2, "terrace 5;slip |101;");
        fault(2, "terrace 2;soul a at 0 face 1 kind 1;soul b at 1 face 1 kind 1;soul c at |1 face 1 kind 1;");
    }

    private static void faultsOfNames() {
        fault(3, TWO + "soul |ann at 2 face 1 kind 1;");
        fault(3, TWO + "soul |bob;");
        fault(3, TWO + "thinks |cid of ann 1;");
        fault(3, TWO + "thinks |an of bob 1;");
        fault(3, TWO + "thinks |anna of bob 1;");
        fault(3, TWO + "thinks ann of |cid 1;");
        fault(3, TWO + "thinks ann of |ann 1;");
        fault(3, "terrace 5;soul a at 0 face 1 kind 1;thinks a of |b 1;soul b at 1 face 1 kind 1;");
        sound("terrace 5;soul a at 0 face 1 kind 1;soul aa at 1 face 1 kind 1;thinks aa of a 1;", 4);
    }

    private static void faultsOfDepth() {
        sound("terrace 5;paints ((((((1))))));", 2);
        fault(4, "terrace 5;paints ((((((|(1)))))));");
        sound("terrace 5;paints (1)+(1)+(1)+(1)+(1)+(1)+(1)+((((((1))))));", 2);
        sound("terrace 5;paints min(max(min(max(min(max(1,1),1),1),1),1),1);", 2);
        fault(4, "terrace 5;paints min(max(min(max(min(max(min|(1,1),1),1),1),1),1),1);");
        fault(4, "terrace 5;paints ((((((1+max |(1,2)))))));");
        fault(1, "terrace 5;paints ((((((1|(1)))))));");
        sound("terrace 5;paints min(1,(((((2))))));", 2);
        fault(4, "terrace 5;paints min(1,(((((|(2)))))));");
        sound("terrace 5;paints min((1),(1))+min((((((1))))),(((((1))))));", 2);
        sound("terrace 5;feud not not not not not not all;", 2);
        fault(4, "terrace 5;feud not not not not not not |not all;");
        fault(4, "terrace 5;feud not not not not not not |[all];");
        fault(4, "terrace 5;feud not not not not not not |(1)<2;");
        fault(4, "terrace 5;feud not not not not not not 1<|(2);");
        sound("terrace 5;feud not not not not not not all and not not not not not not all or [[[[[[all]]]]]];", 2);
        sound("terrace 5;feud [[[[[[all]]]]]];", 2);
        fault(4, "terrace 5;feud [[[[[[|[all]]]]]]];");
        fault(4, "terrace 5;feud not[not[not[|not all]]];");
        sound("terrace 5;feud not[not[not[all]]]and ((((((1))))))<((((((2))))));", 2);
        fault(4, "terrace 5;feud [all or not [not (min(1,2)+(3))<max((|(4)),5)]];");
        sound("terrace 5;feud [all or not [not (min(1,2)+(3))<max((4),5)]];", 2);
        fault(1, "terrace 5;feud [[[[[(|not all)]]]]];");
    }

    private static void faultsOfNumber() {
        StringBuilder eight = new StringBuilder("terrace 9;");
        for (int i = 0; i < 8; i++) {
            eight.append("soul ").append((char) ('a' + i)).append(" at ").append(i).append(" face 1 kind 1;");
        }
        sound(eight.toString(), 9);
        fault(5, eight + "|soul i at 8 face 1 kind 1;");
        fault(5, eight + " |soul");
        fault(1, eight + "|souls");
        fault(5, "terrace 5;paints 1;|paints 1;");
        fault(5, "terrace 5;paints 1;minds 1; |paints ?");
        fault(5, "terrace 5;minds 1;|minds");
        fault(5, "terrace 5;feud all;|feud all;");
        sound("terrace 5;feud all;minds 1;paints 1;", 4);
    }

    private static void manyStatements() {
        StringBuilder full = new StringBuilder("terrace 9;");
        for (int i = 1; i < 80; i++) {
            full.append("slip 1;");
        }
        sound(full.toString(), 80);
        sound(full + " \n ", 80);
        fault(5, full + "|slip 1;");
        fault(5, full + "\n |?");
        fault(5, full + "|;");
        fault(5, full + "|\t");
        fault(5, full + "|terrace");
        fault(1, full.substring(0, full.length() - 1) + "|");
    }

    private static void refusedTerrace() {
        Retouched x = Check.told(TWO + "paints 0;");
        x.years(3);
        Check.see(x, 1, 0, 5);
        CHECK.due("a refused terrace()", Check.terrace(x, "terrace 3;soul zed at 0 face 9 kind 9;paints 7;?"), -1);
        CHECK.due("the tape goes", x.end(1), false);
        CHECK.due("has(0) stays", x.has(0), 5);
        CHECK.due("has(1) stays", x.has(1), 2);
        CHECK.due("has(2) stays", x.has(2), 3);
        CHECK.due("has(7) stays", x.has(7), 2);
        CHECK.due("has(8) stays", x.has(8), 1);
        CHECK.due("has(9) stays", x.has(9), 1);
        CHECK.due("letter(0, 0) stays", x.letter(0, 0), 1);
        CHECK.due("paints(0, 1) stays", x.paints(0, 1), 0);
        CHECK.due("person(1, 2) stays", x.person(1, 2), 3);
    }

    private static void newTerrace() {
        Retouched x = Check.told(TWO + "paints 0;slip 100;");
        x.spare(0, 1);
        x.years(3);
        Check.see(x, 1, 0, 5);
        x.image();
        x.end(7);
        CHECK.due("a second terrace()", Check.terrace(x, "terrace 3;soul zed at 2 face 9 kind 8;"), 2);
        int[] due = {3, 1, 0, 0, 0, 0, 90, 0, 0, 0};
        for (int what = 0; what < due.length; what++) {
            CHECK.due("has(" + what + ") of the second", x.has(what), due[what]);
        }
        CHECK.due("person(0, 0)", x.person(0, 0), 2);
        CHECK.due("person(0, 4)", x.person(0, 4), 0);
        CHECK.due("undo()", x.undo(), false);
        CHECK.due("status(0) stays", x.status(0), 1);
        CHECK.due("octet(1) stays", x.octet(1), 3);
        // Without a word of slip in the second there is none.
        CHECK.due("chance(9)", x.chance(9), 0);
    }

    /** The texts on one object have nothing to do with one another, faulty ones neither. */
    private static void manyTerraces() {
        Retouched x = new Retouched();
        String three = "terrace 3;soul a at 0 face 1 kind 1;soul b at 1 face 2 kind 1;soul c at 2 face 3 kind 1;";
        for (int i = 0; i < 3; i++) {
            CHECK.due("terrace() " + i, Check.terrace(x, three + "paints 7;minds 7;feud all;slip 100;"), 8);
            CHECK.due("paints(0, 1) " + i, x.paints(0, 1), 7);
            CHECK.due("feud(0) " + i, x.feud(0), 1);
            CHECK.due("chance(1) " + i, x.chance(1), 1);
            CHECK.due("thinks(0, 1) " + i, x.thinks(0, 1), 7);
            CHECK.due("terrace() with a fault", Check.terrace(x, "terrace 3;soul a at 1 face 9 kind 9;paints look"), -1);
            CHECK.due("terrace() with a fault at a word", Check.terrace(x, "terrace 3;soul soul"), -1);
            CHECK.due("terrace() with a fault at a number", Check.terrace(x, "terrace 10"), -1);
            CHECK.due("fault(0) of that number", x.fault(0), 2);
            CHECK.due("paints(0, 1) stays " + i, x.paints(0, 1), 7);
            for (int again = 0; again < 2; again++) {
                CHECK.due("terrace() of fewer", Check.terrace(x, "terrace 3;soul b at 2 face 4 kind 1;"), 2);
                CHECK.due("has(1) of fewer", x.has(1), 1);
                CHECK.due("house(0) of fewer", x.house(0), -1);
                CHECK.due("chance(1) of fewer", x.chance(1), 0);
                CHECK.due("thinks of those who are no more", Check.ask(x, "total thinks 1+back 1"), 0);
            }
            CHECK.due("terrace() untold " + i, Check.terrace(x, three), 4);
            CHECK.due("paints(0, 1) untold " + i, x.paints(0, 1), 10);
            CHECK.due("feud(0) untold " + i, x.feud(0), 0);
            CHECK.due("thinks(0, 1) untold " + i, x.thinks(0, 1), 5);
        }
    }

    /** The whole tape is one sum, more than once on one object. */
    private static void longestTexts() {
        Retouched x = new Retouched();
        String two = "terrace 2;soul a at 0 face 1 kind 1;soul b at 1 face 2 kind 1;";
        StringBuilder text = new StringBuilder(two).append("paints look");
        while (text.length() < 1596) {
            text.append("+2-1");
        }
        int due = 10 + (text.length() - two.length() - 11) / 4;
        text.append(text.length() < 1598 ? "-0;" : ";");
        for (int i = 0; i < 2; i++) {
            CHECK.due("terrace() of " + text.length() + " bytes", Check.terrace(x, text.toString()), 4);
            CHECK.due("paints(0, 1)", x.paints(0, 1), Math.min(99, due));
            CHECK.due("feud(0) untold", x.feud(0), 0);
        }
        Retouched y = Check.told(two);
        StringBuilder question = new StringBuilder("total 1");
        while (question.length() < 1599) {
            question.append("+1");
        }
        for (int i = 0; i < 3; i++) {
            CHECK.due("ask() of " + question.length() + " bytes", Check.ask(y, question.toString()), 2 * (1 + (question.length() - 7) / 2));
        }
        // Numbers wait at every level, the deepest there is.
        String sum = "7";
        int worth = 7;
        String test = "all";
        for (int level = 0; level < 6; level++) {
            sum = "9-2*max(0-99," + sum + ")";
            worth = 9 - 2 * Math.max(-99, worth);
            test = "2<1 or 1<2 and [" + test + "]";
        }
        CHECK.due("feud(0) of a deep sum", Check.told(two + "feud " + worth + "=" + sum + ";").feud(0), 1);
        CHECK.due("feud(0) of a deep test", Check.told(two + "feud " + test + ";").feud(0), 1);
        CHECK.due("feud(0) of a deep test", Check.told(two + "feud " + test.replace("all", "2<1") + ";").feud(0), 0);
    }

    private static void faultCall() {
        Retouched x = Check.told(TWO);
        CHECK.due("fault(2)", x.fault(2), -1);
        CHECK.due("fault(-1)", x.fault(-1), -1);
        Check.ask(x, "total ?");
        CHECK.due("fault(0) of a question", x.fault(0), 1);
        CHECK.due("fault(1) of a question", x.fault(1), 6);
        Check.see(x, 99, 99, 99);
        Check.on(x, 1, 2, 3);
        CHECK.due("fault(1) stays behind see(), on()", x.fault(1), 6);
        Check.ask(x, "total 1");
        CHECK.due("fault(0) of a sound question", x.fault(0), 0);
        CHECK.due("fault(1) of a sound question", x.fault(1), -1);
    }

    private static void letters() {
        Retouched x = Check.told("terrace 5;soul abyz at 3 face 1 kind 1;soul qrstuv at 0 face 1 kind 1;");
        int[] first = {1, 2, 25, 26, 0, 0};
        int[] second = {17, 18, 19, 20, 21, 22};
        for (int k = 0; k < 6; k++) {
            CHECK.due("letter(0, " + k + ")", x.letter(0, k), first[k]);
            CHECK.due("letter(1, " + k + ")", x.letter(1, k), second[k]);
        }
        CHECK.due("letter(0, 6)", x.letter(0, 6), -1);
        CHECK.due("letter(0, -1)", x.letter(0, -1), -1);
        CHECK.due("letter(2, 0)", x.letter(2, 0), -1);
        CHECK.due("letter(-1, 0)", x.letter(-1, 0), -1);
        CHECK.due("letter(most, most)", x.letter(Integer.MAX_VALUE, Integer.MAX_VALUE), -1);
    }
}
