/**
 * The edges of terms I and IV and of promises 4, 5, 7 and 32, sentence by sentence: the last that is taken and the
 * first that is not. A bar in a text stands where the fault is due.
 */
public final class TextEdgesTest {
    private static final Check CHECK = new Check("TextEdgesTest");
    private static final long NOTHING = -1000000000000000L;
    private static final String ONE = "terrace 5;soul ann at 0 face 1 kind 2;";
    private static final String TWO = ONE + "soul bob at 1 face 3 kind 4;";
    private static final String[] OWN = {"terrace", "soul", "at", "face", "kind", "thinks", "of", "paints", "minds", "feud",
        "slip", "look", "side", "gain", "back", "year", "number", "house", "spares", "or", "and", "not", "all", "min", "max"};
    private static final String[] VERBS = {"first", "last", "often", "total", "most", "least"};

    public static void main(String[] args) {
        statements();
        houses();
        souls();
        thoughts();
        rulesOnce();
        slips();
        digits();
        names();
        ownWords();
        namesAhead();
        everyByteAsBlank();
        blanksBetween();
        tooSoon();
        firstAlong();
        wordsOfEachRule();
        depthOfRules();
        depthOfQuestions();
        held();
        divided();
        signs();
        untoldRules();
        questionsOfNobody();
        thoughtsOfNone();
        trailing();
        latestFault();
        letters();
        askedWithoutTerrace();
        CHECK.finish();
    }

    private static void sound(String text, int statements) {
        Retouched x = new Retouched();
        CHECK.due("terrace() of " + text, Check.terrace(x, text), statements);
        CHECK.due("fault(0) of " + text, x.fault(0), 0);
        CHECK.due("fault(1) of " + text, x.fault(1), -1);
        CHECK.due("status(1) of " + text, x.status(1), 0);
    }

    private static void fault(int kind, String marked) {
        int place = marked.indexOf('|');
        String text = marked.substring(0, place) + marked.substring(place + 1);
        Retouched x = new Retouched();
        CHECK.due("terrace() of " + text, Check.terrace(x, text), -1);
        CHECK.due("fault(0) of " + text, x.fault(0), kind);
        CHECK.due("fault(1) of " + text, x.fault(1), place);
        CHECK.due("status(1) of " + text, x.status(1), 1);
    }

    private static void answer(String text, long want) {
        Retouched x = Check.told(TWO);
        CHECK.due("ask() of " + text, Check.ask(x, text), want);
        CHECK.due("fault(0) of " + text, x.fault(0), 0);
        CHECK.due("fault(1) of " + text, x.fault(1), -1);
    }

    private static void askFault(int kind, String marked) {
        int place = marked.indexOf('|');
        String text = marked.substring(0, place) + marked.substring(place + 1);
        Retouched x = Check.told(TWO);
        CHECK.due("ask() of " + text, Check.ask(x, text), NOTHING);
        CHECK.due("fault(0) of " + text, x.fault(0), kind);
        CHECK.due("fault(1) of " + text, x.fault(1), place);
    }

    private static String repeat(String text, int times) {
        StringBuilder all = new StringBuilder();
        for (int i = 0; i < times; i++) {
            all.append(text);
        }
        return all.toString();
    }

    /** "{ STATEMENT ; } (80 at most)"; "an 81st STATEMENT (whatever stands there), at its first byte". */
    private static void statements() {
        sound("terrace 9;" + repeat("slip 1;", 78), 79);
        String full = "terrace 9;" + repeat("slip 1;", 79);
        sound(full, 80);
        sound(full + "\n \n", 80);
        for (String more : new String[] {"slip 1;", "slip 101;", "soul", "thinks x", "terrace", "x", "abcdefgh", "5", "12345", ";", "?", "(", "\t",
            "" + (char) 0, "" + (char) 255}) {
            fault(5, full + "|" + more);
            fault(5, full + " \n|" + more);
        }
        // The 80th is read as any other.
        fault(2, "terrace 9;" + repeat("slip 1;", 78) + "slip |101;");
        fault(1, "terrace 9;" + repeat("slip 1;", 78) + "slip 1|");
        sound(TWO + "paints 1;minds 1;feud all;" + repeat("thinks ann of bob 1;", 74), 80);
    }

    /** "terrace N (2 .. 9 HOUSES ..; the first STATEMENT, and it alone)"; "a number that can't be". */
    private static void houses() {
        for (int n = 0; n <= 10; n++) {
            if (n >= 2 && n <= 9) {
                sound("terrace " + n + ";", 1);
                CHECK.due("has(0) of " + n, Check.told("terrace " + n + ";").has(0), n);
                CHECK.due("house(" + (n - 1) + ")", Check.told("terrace " + n + ";soul a at " + (n - 1) + " face 1 kind 1;").house(n - 1), 0);
                fault(2, "terrace " + n + ";soul a at |" + n + " face 1 kind 1;");
            } else {
                fault(2, "terrace |" + n + ";");
            }
        }
        fault(2, "terrace |9999;");
        fault(2, "terrace |0001;");
        sound("terrace 0002;", 1);
        fault(1, "|slip 1;terrace 5;");
        fault(1, "terrace 5;|terrace 5;");
        fault(1, "terrace 5;slip 1;|terrace 6;");
    }

    /** "a HOUSE in which none lives, 0 .. 9 each; 8 PEOPLE"; "one too many of a kind". */
    private static void souls() {
        sound("terrace 5;soul a at 0 face 0 kind 0;soul b at 4 face 9 kind 9;", 3);
        fault(2, "terrace 5;soul a at |5 face 0 kind 0;");
        fault(2, "terrace 5;soul a at 0 face |10 kind 0;");
        fault(2, "terrace 5;soul a at 0 face |9999 kind 0;");
        fault(2, "terrace 5;soul a at 0 face 0 kind |10;");
        fault(2, "terrace 5;soul a at 0 face 0 kind |9999;");
        for (int house = 0; house < 9; house++) {
            fault(2, "terrace 9;soul a at " + house + " face 0 kind 0;soul b at |" + house + " face 0 kind 0;");
        }
        StringBuilder row = new StringBuilder("terrace 9;");
        for (int i = 0; i < 8; i++) {
            row.append("soul ").append((char) ('a' + i)).append(" at ").append(8 - i).append(" face ").append(i).append(" kind 1;");
            sound(row.toString(), 2 + i);
            CHECK.due("has(1)", Check.told(row.toString()).has(1), 1 + i);
        }
        fault(5, row + "|soul z at 0 face 0 kind 0;");
        fault(5, row + "|soul a at 8 face 10 kind 10;");
        fault(5, row + "|soul");
        fault(5, row + "slip 1; |soul 5");
        // Of two houses the third one finds none: that is the number's fault.
        fault(2, "terrace 2;soul a at 0 face 0 kind 0;soul b at 1 face 0 kind 0;soul c at |0 face 0 kind 0;");
    }

    /** "thinks NAME of NAME N (two unlike PEOPLE; 0 .. 9; the last one of these two counts, 5 without)". */
    private static void thoughts() {
        CHECK.due("thinks(0, 1) without", Check.told(TWO).thinks(0, 1), 5);
        CHECK.due("thinks(1, 0) without", Check.told(TWO).thinks(1, 0), 5);
        for (int n = 0; n <= 9; n++) {
            Retouched x = Check.told(TWO + "thinks ann of bob " + n + ";");
            CHECK.due("thinks(0, 1) of " + n, x.thinks(0, 1), n);
            CHECK.due("thinks(1, 0) beside " + n, x.thinks(1, 0), 5);
        }
        fault(2, TWO + "thinks ann of bob |10;");
        fault(2, TWO + "thinks ann of bob |9999;");
        Retouched x = Check.told(TWO + "thinks ann of bob 1;thinks bob of ann 2;thinks ann of bob 9;thinks ann of bob 0;");
        CHECK.due("thinks(0, 1), the last one", x.thinks(0, 1), 0);
        CHECK.due("thinks(1, 0), told once", x.thinks(1, 0), 2);
        fault(3, TWO + "thinks ann of |ann 1;");
        fault(3, TWO + "thinks bob of |bob 10;");
        fault(3, TWO + "thinks |cid of cid 1;");
        fault(3, TWO + "thinks ann of |cid 1;");
        // Nobody can think of anybody where there is but one, or none.
        fault(3, ONE + "thinks ann of |ann 1;");
        fault(3, "terrace 5;thinks |ann of bob 1;");
    }

    /** "paints SUM, minds SUM, feud TEST (one each)"; "a second paints, minds, feud, too". */
    private static void rulesOnce() {
        sound("terrace 5;paints 1;minds 1;feud all;", 4);
        String all = "terrace 5;feud all;paints 1;minds 1;";
        fault(5, all + "|paints 1;");
        fault(5, all + "|minds 1;");
        fault(5, all + "|feud all;");
        fault(5, all + "\n|paints");
        fault(5, all + "slip 1;|minds ?");
        fault(5, all + "|feud5");
        fault(1, all + "|paintss 1;");
    }

    /** "slip N (0 .. 100; the last one counts, 0 without)". */
    private static void slips() {
        sound("terrace 5;slip 0;", 2);
        sound("terrace 5;slip 100;", 2);
        fault(2, "terrace 5;slip |101;");
        fault(2, "terrace 5;slip |9999;");
        CHECK.due("chance(100) without", Check.told(TWO).chance(100), 0);
        CHECK.due("chance(100) of 0", Check.told(TWO + "slip 0;").chance(100), 0);
        CHECK.due("chance(100) of 100", Check.told(TWO + "slip 100;").chance(100), 100);
        CHECK.due("chance(100) of 100, then 0", Check.told(TWO + "slip 100;slip 0;").chance(100), 0);
        CHECK.due("chance(100) of 0, then 100", Check.told(TWO + "slip 0;slip 50;slip 100;").chance(100), 100);
    }

    /** "N (1 to 4 digits)"; "where a number is asked, a 5th digit at itself". */
    private static void digits() {
        sound("terrace 5;paints 0;", 2);
        sound("terrace 5;paints 9999;", 2);
        sound("terrace 5;paints 0000;", 2);
        fault(1, "terrace 5;paints 0000|0;");
        fault(1, "terrace 5;paints 9999|9;");
        fault(1, "terrace 5;paints 1234|567890123;");
        fault(1, "terrace 0000|5;");
        fault(1, "terrace 0005|5");
        fault(1, "terrace 5;soul a at 0000|0 face 1 kind 1;");
        fault(1, "terrace 5;soul a at 0 face 0000|1 kind 1;");
        fault(1, "terrace 5;soul a at 0 face 1 kind 0000|1;");
        fault(1, TWO + "thinks ann of bob 0000|1;");
        fault(1, "terrace 5;slip 0010|0;");
        fault(1, "terrace 5;feud 1<0000|2;");
        answer("total 9999", 2 * 9999);
        askFault(1, "total 9999|9");
        askFault(1, "total thinks 0000|1");
        // Where no number is asked, it is at its first byte.
        fault(1, "terrace 5;|12345;");
        fault(1, "terrace 5;soul |12345 at 0 face 1 kind 1;");
        fault(1, "terrace 5 |12345;");
        fault(1, "terrace 5;paints 1 |12345;");
        askFault(1, "|12345");
        // The number as it is read: no digit of it is lost.
        for (int n : new int[] {0, 7, 10, 99, 100, 999, 1000, 1234, 9876, 9999}) {
            answer("most " + n, n);
        }
    }

    /** "NAMES: 1 to 6 letters"; "where a NAME is asked, .. a 7th letter at itself". */
    private static void names() {
        for (int size = 1; size <= 6; size++) {
            String name = "qwertz".substring(0, size);
            sound("terrace 5;soul " + name + " at 0 face 1 kind 1;soul x at 1 face 1 kind 1;thinks " + name + " of x 1;thinks x of " + name + " 1;", 5);
        }
        sound("terrace 5;soul abcdef at 0 face 1 kind 1;soul zyxwvu at 1 face 1 kind 1;thinks abcdef of zyxwvu 1;", 4);
        fault(1, "terrace 5;soul abcdef|g at 0 face 1 kind 1;");
        fault(1, "terrace 5;soul abcdef|ghijklmnopqrstuvwxyz");
        fault(1, TWO + "thinks abcdef|g of bob 1;");
        fault(1, TWO + "thinks ann of abcdef|g 1;");
        // A seventh letter is no name's, even where the first six are one's.
        fault(1, "terrace 5;soul abcdef at 0 face 1 kind 1;soul abcdef|g at 1 face 1 kind 1;");
        // Where no name is asked, a long word is at its first byte.
        fault(1, "terrace 5;|abcdefg;");
        fault(1, "terrace |abcdefg;");
        fault(1, "terrace 5;soul a |abcdefg");
        fault(1, "terrace 5;paints |abcdefg;");
        askFault(1, "|abcdefg");
        askFault(1, "total |abcdefg");
    }

    /** "no OWN WORD"; "where a NAME is asked, an OWN WORD so" (at its first byte). */
    private static void ownWords() {
        for (String word : OWN) {
            fault(1, "terrace 5;soul |" + word + " at 0 face 1 kind 1;");
            fault(1, TWO + "thinks |" + word + " of bob 1;");
            fault(1, TWO + "thinks ann of |" + word + " 1;");
            // A letter more, or one less, and it is none.
            String more = word + "x";
            if (more.length() <= 6) {
                sound("terrace 5;soul " + more + " at 0 face 1 kind 1;", 2);
            } else {
                fault(1, "terrace 5;soul " + more.substring(0, 6) + "|" + more.substring(6) + " at 0 face 1 kind 1;");
            }
            sound("terrace 5;soul " + word.substring(0, word.length() - 1) + " at 0 face 1 kind 1;", 2);
        }
        for (String verb : VERBS) {
            sound("terrace 5;soul " + verb + " at 0 face 1 kind 1;", 2);
        }
    }

    /** "unlike ones, told ahead of where they are asked"; "a NAME to be given that is there already, one that is none". */
    private static void namesAhead() {
        fault(3, ONE + "soul |ann at 1 face 1 kind 1;");
        fault(3, ONE + "soul |ann at 0 face 10 kind 1;");
        sound(ONE + "soul anna at 1 face 1 kind 1;soul an at 2 face 1 kind 1;soul nan at 3 face 1 kind 1;", 5);
        fault(3, ONE + "thinks ann of |bob 1;soul bob at 1 face 1 kind 1;");
        fault(3, ONE + "thinks |bob of ann 1;soul bob at 1 face 1 kind 1;");
        fault(3, TWO + "thinks |an of bob 1;");
        fault(3, TWO + "thinks |anna of bob 1;");
        fault(3, TWO + "thinks ann of |bo 1;");
        fault(3, TWO + "thinks ann of |bobb 1;");
        // The soul that is being told is there with its whole statement only.
        fault(3, "terrace 5;soul abcdef at 0 face 1 kind 1;thinks |abcde of abcdef 1;");
        // Names of a terrace before are none.
        Retouched x = Check.told(TWO);
        CHECK.due("terrace() of a name told before", Check.terrace(x, "terrace 5;thinks ann of bob 1;"), -1);
        CHECK.due("fault(0)", x.fault(0), 3);
        CHECK.due("fault(1)", x.fault(1), 17);
        CHECK.due("terrace() of the same once more", Check.terrace(x, TWO), 3);
    }

    /** "Blanks (10, 32) are where one likes": these two bytes of all, and no other. */
    private static void everyByteAsBlank() {
        for (int b = 0; b < 256; b++) {
            String sign = "" + (char) b;
            boolean isBlank = b == 10 || b == 32;
            boolean isDigit = b >= '0' && b <= '9';
            boolean isLetter = b >= 'a' && b <= 'z';
            if (isBlank) {
                sound(sign + "terrace" + sign + "5" + sign + ";" + sign, 1);
                answer(sign + "total" + sign + "1" + sign, 2);
                continue;
            }
            fault(1, isLetter ? "|terrace" + sign + "5;" : "terrace|" + sign + "5;");
            fault(isDigit ? 2 : 1, isDigit ? "terrace |5" + sign + ";" : "terrace 5|" + sign + (b == ';' ? "" : ";"), b == ';');
            fault(1, "|" + sign + "terrace 5;");
            fault(1, "terrace 5;|" + sign);
            askFault(1, isLetter ? "|total" + sign + "1" : b == '(' ? "total(1|" : "total|" + sign + "1");
        }
    }

    /** As fault(), but for the one text that is sound after all. */
    private static void fault(int kind, String marked, boolean isSound) {
        if (isSound) {
            sound(marked.replace("|", ""), 1);
        } else {
            fault(kind, marked);
        }
    }

    /** "(words and numbers side by side need one)"; signs need none. */
    private static void blanksBetween() {
        fault(1, "terrace|5;");
        fault(1, "terrace 5;slip|5;");
        fault(1, "terrace 5;soul a|5 at 0 face 1 kind 1;");
        fault(1, "terrace 5;soul a at|0 face 1 kind 1;");
        fault(1, "terrace 5;soul a at 0|face 1 kind 1;");
        fault(1, "terrace 5;soul a at 0 face|1 kind 1;");
        fault(1, "terrace 5;soul a at 0 face 1|kind 1;");
        fault(1, "terrace 5;soul a at 0 face 1 kind|1;");
        fault(1, TWO + "thinks ann of bob|1;");
        fault(1, "terrace 5;paints|1;");
        fault(1, "terrace 5;feud|1<2;");
        fault(1, "terrace 5;feud 1<2|and 1<2;");
        fault(1, "terrace 5;feud 1<2 and|1<2;");
        fault(1, "terrace 5;feud 1<2|or 1<2;");
        fault(1, "terrace 5;feud not|1<2;");
        // Two words side by side are one, and an unknown one.
        fault(1, "terrace 5;feud |notall;");
        fault(1, "terrace 5;feud all |andall;");
        fault(1, "terrace 5;|slipslip 1;");
        sound("terrace 5;paints(look)+(1)*min(1,2);minds(gain);feud[all]and[all]or not[1<2];", 4);
        sound("\n\n terrace \n 5 \n ; paints \n ( \n look \n ) \n + \n 1 \n ; \n", 2);
        askFault(1, "total|1");
        askFault(1, "total 1+thinks|1");
        askFault(1, "first not|1<2");
        askFault(1, "first 1<2|or 1<2");
        answer("total(thinks(1))", 5);
        answer("first[not[all]or all]", 0);
    }

    /** "at the text's length, if it ends too soon"; a word that is cut is at its first byte. */
    private static void tooSoon() {
        String text = "terrace 5;soul ann at 0 face 1 kind 2;soul bob at 1 face 3 kind 4;thinks ann of bob 7;"
                + "paints max(look,3)-(face)*2;feud not[thinks<back]and all;slip 50;";
        // Cut anywhere, it ends too soon, or goes no farther than the word that was cut.
        for (int cut = 0; cut < text.length(); cut++) {
            String part = text.substring(0, cut);
            if (part.endsWith(";")) {
                sound(part, part.split(";").length);
                sound(part + "\n ", part.split(";").length);
                continue;
            }
            int word = cut;
            while (word > 0 && part.charAt(word - 1) >= 'a' && part.charAt(word - 1) <= 'z') {
                word--;
            }
            String last = part.substring(word);
            boolean isWhole = last.isEmpty() || java.util.Arrays.asList(OWN).contains(last);
            boolean isNewName = part.substring(0, word).endsWith("soul ");
            boolean isAskedName = part.substring(0, word).endsWith("thinks ") && text.startsWith("ann", word)
                    || part.substring(0, word).endsWith(" of ");
            if (isAskedName && last.length() > 0 && last.length() < 3) {
                fault(3, part.substring(0, word) + "|" + last);
            } else if (isWhole || isNewName || isAskedName) {
                fault(1, part + "|");
                fault(1, part + " \n|");
            } else {
                fault(1, part.substring(0, word) + "|" + last);
            }
        }
        fault(1, "|");
        fault(1, "    |");
        for (String part : new String[] {"", " \n", "total", "total 1+", "total (", "total (1", "total min(", "total min(1",
            "total min(1,", "total min(1,2", "total thinks", "total thinks thinks", "total back ", "often not", "often [", "often [all",
            "often 1", "often 1<", "often all and", "often all or ", "first 1+1", "least ", "most 1*"}) {
            askFault(1, part + "|");
            askFault(1, part + "\n|");
        }
    }

    /** "FAULTS, the first along the text". */
    private static void firstAlong() {
        fault(2, "terrace |1;terrace 5;");
        fault(2, "terrace |10 soul");
        fault(2, "terrace |1x;");
        fault(1, "terrace 5|x;terrace 1");
        fault(2, ONE + "soul b at |0 face 10 kind 10;soul b");
        fault(2, ONE + "soul b at 1 face |10 kind 10;");
        fault(3, ONE + "soul |ann at 9 face 10 kind 10;");
        fault(3, ONE + "thinks |bob of ann 10;");
        fault(3, ONE + "thinks ann of |bob 10;");
        fault(1, ONE + "thinks ann |off bob 10;");
        fault(4, "terrace 5;paints ((((((|(((((((gain;");
        fault(1, "terrace 5;paints ((((((|gain+(1;");
        fault(5, "terrace 5;paints 1;|paints (((((((1");
        fault(1, "terrace 5;paints 1|paints 1;paints 1;");
        fault(2, "terrace 5;slip |101;paints 1;paints 1;");
        askFault(1, "total |x+(((((((1");
        askFault(4, "total ((((((|(x");
    }

    /** "in paints: look; side; in minds: gain; in feud: back"; of a QUESTION its own PARTs. */
    private static void wordsOfEachRule() {
        String common = " face kind thinks year ";
        rule("paints ", "", common + "look side ");
        rule("minds ", "", common + "gain ");
        rule("feud ", "<1", common + "back ");
        String asked = " face kind year number house look spares ";
        for (String word : OWN) {
            boolean isOpen = word.equals("min") || word.equals("max") || word.equals("thinks") || word.equals("back");
            if (asked.contains(" " + word + " ")) {
                CHECK.due("total " + word, Check.ask(Check.told(TWO), "total " + word) != NOTHING, true);
            } else if (isOpen) {
                askFault(1, "total " + word + "|");
            } else {
                askFault(1, "total |" + word);
            }
        }
        for (String verb : VERBS) {
            askFault(1, "total |" + verb);
            fault(1, "terrace 5;paints |" + verb + ";");
            fault(1, "terrace 5;|" + verb + " 1;");
        }
    }

    private static void rule(String rule, String behind, String words) {
        for (String word : OWN) {
            if (words.contains(" " + word + " ")) {
                sound("terrace 5;" + rule + word + behind + ";", 2);
            } else if (word.equals("min") || word.equals("max")) {
                fault(1, "terrace 5;" + rule + word + "|" + behind + ";");
            } else if (rule.equals("feud ") && word.equals("all")) {
                sound("terrace 5;feud all;", 2);
            } else if (rule.equals("feud ") && word.equals("not")) {
                fault(1, "terrace 5;feud not|" + behind + ";");
            } else {
                fault(1, "terrace 5;" + rule + "|" + word + behind + ";");
            }
        }
    }

    /** "4 the 7th of ( [ not that is open at once (not until its FACT ends), at it": six of each, and of all together. */
    private static void depthOfRules() {
        sound("terrace 5;paints " + repeat("(", 6) + "1" + repeat(")", 6) + ";", 2);
        fault(4, "terrace 5;paints " + repeat("(", 6) + "|(1" + repeat(")", 7) + ";");
        sound("terrace 5;minds " + repeat("min(", 6) + "1" + repeat(",1)", 6) + ";", 2);
        fault(4, "terrace 5;minds " + repeat("min(", 6) + "min|(1" + repeat(",1)", 7) + ";");
        sound("terrace 5;minds " + repeat("max(1,", 6) + "1" + repeat(")", 6) + ";", 2);
        fault(4, "terrace 5;minds " + repeat("max(1,", 6) + "max|(1,1" + repeat(")", 7) + ";");
        sound("terrace 5;feud " + repeat("[", 6) + "all" + repeat("]", 6) + ";", 2);
        fault(4, "terrace 5;feud " + repeat("[", 6) + "|[all" + repeat("]", 7) + ";");
        sound("terrace 5;feud " + repeat("not ", 6) + "all;", 2);
        fault(4, "terrace 5;feud " + repeat("not ", 6) + "|not all;");
        // The seventh is the one that is told, whichever of the three the six ahead of it are.
        for (int nots = 0; nots <= 6; nots++) {
            for (int tests = 0; nots + tests <= 6; tests++) {
                int sums = 6 - nots - tests;
                String open = repeat("not ", nots) + repeat("[", tests) + repeat("(", sums);
                String close = repeat(")", sums) + "<2" + repeat("]", tests);
                sound("terrace 5;feud " + open + "1" + close + ";", 2);
                fault(4, "terrace 5;feud " + open + "|(1)" + close + ";");
                fault(4, "terrace 5;feud " + open + "min|(1,1)" + close + ";");
                if (sums == 0) {
                    fault(4, "terrace 5;feud " + open + "|[all]" + repeat("]", tests) + ";");
                    fault(4, "terrace 5;feud " + open + "|not all" + repeat("]", tests) + ";");
                }
            }
        }
        // What is closed is open no more; a not ends with its FACT, ahead of and, or, ].
        sound("terrace 5;paints " + repeat("(1)+", 9) + repeat("(", 6) + "1" + repeat(")", 6) + ";", 2);
        sound("terrace 5;feud " + repeat("not not not not not not all and ", 4) + "not not not not not not all;", 2);
        sound("terrace 5;feud not all or not not not not not not 1<2;", 2);
        sound("terrace 5;feud [not not not not not all]and not not not not not not all;", 2);
        sound("terrace 5;feud not not not not not (1)<(2)and((((((1))))))<2;", 2);
        fault(4, "terrace 5;feud not not not not not not 1<|(2);");
        fault(4, "terrace 5;feud [not all and not not not not not |not all];");
        sound("terrace 5;feud [not all and not not not not not all];", 2);
        // Both sums of min and max stand behind one (.
        sound("terrace 5;paints min(" + repeat("(", 5) + "1" + repeat(")", 5) + "," + repeat("(", 5) + "1" + repeat(")", 5) + ");", 2);
        fault(4, "terrace 5;paints min(1,(((((|(1)))))));");
    }

    /** "4 the 7th of ( [ not thinks back that is open at once (.. thinks, back until its PART ends), at it". */
    private static void depthOfQuestions() {
        answer("most " + repeat("(", 6) + "1" + repeat(")", 6), 1);
        askFault(4, "most " + repeat("(", 6) + "|(1" + repeat(")", 7));
        answer("often " + repeat("[", 6) + "all" + repeat("]", 6), 2);
        askFault(4, "often " + repeat("[", 6) + "|[all" + repeat("]", 7));
        answer("often " + repeat("not ", 6) + "all", 2);
        askFault(4, "often " + repeat("not ", 6) + "|not all");
        answer("total " + repeat("thinks ", 6) + "9", 5);
        askFault(4, "total " + repeat("thinks ", 6) + "|thinks 9");
        askFault(4, "total " + repeat("thinks ", 6) + "|back 9");
        askFault(4, "total " + repeat("thinks ", 6) + "|(9)");
        askFault(4, "total " + repeat("thinks ", 6) + "min|(9,9)");
        answer("total " + repeat("back ", 6) + "9", 5);
        askFault(4, "total " + repeat("back ", 6) + "|back 9");
        askFault(4, "total " + repeat("back ", 6) + "|thinks 9");
        askFault(4, "often not [thinks (back max(0,|(1)))<1]");
        answer("often not [thinks (back max(0,1))<1]", 1);
        // A PART ends, and thinks, back with it.
        answer("total thinks 1+" + repeat("thinks ", 6) + "9", 5 + 5);
        answer("total " + repeat("thinks 9*", 8) + repeat("back ", 6) + "9", 0);
        answer("often thinks 1=5 and " + repeat("not ", 5) + "thinks 1=5", 0);
        askFault(4, "often thinks 1=5 and " + repeat("not ", 6) + "|thinks 1=5");
        answer("often " + repeat("not ", 6) + "all and thinks 1=5", 1);
        answer("total thinks(1)+(thinks(thinks(thinks 9)))", 5 + 0);
    }

    /** "each sum, difference, product above 10 to the 6 is that, below -10 to the 6 likewise": at the edge, and at each step. */
    private static void held() {
        String million = "1000*1000";
        answer("most " + million, 1000000);
        answer("most " + million + "-1", 999999);
        answer("most " + million + "+0", 1000000);
        answer("most " + million + "+1", 1000000);
        answer("most " + million + "+1-1", 999999);
        answer("most " + million + "*1", 1000000);
        answer("most " + million + "*2/2", 500000);
        answer("most 999*1001", 999999);
        answer("most 1001*1000", 1000000);
        answer("most 1001*1000-1000", 999000);
        answer("most 9999*9999", 1000000);
        answer("most 9999*100+100", 1000000);
        answer("most 9999*100+101-1", 999999);
        answer("least 0-" + million, -1000000);
        answer("least 0-" + million + "+1", -999999);
        answer("least 0-" + million + "-0", -1000000);
        answer("least 0-" + million + "-1", -1000000);
        answer("least 0-" + million + "-1+1", -999999);
        answer("least (0-1001)*1000", -1000000);
        answer("least (0-1001)*1000+1000", -999000);
        answer("least (0-999)*1001", -999999);
        answer("most (0-9999)*(0-9999)", 1000000);
        answer("most 9999*9999*9999*9999", 1000000);
        answer("least 9999*9999*(0-9999)*9999", -1000000);
        answer("most " + million + "-(0-" + million + ")", 1000000);
        answer("most min(" + million + ",9999*9999)", 1000000);
        answer("first 9999*9999=" + million, 0);
        // Of all together it is a sum over people and no SUM: eight of a million each.
        answer("total " + million, 2000000);
        answer("total 0-" + million, -2000000);
        StringBuilder eight = new StringBuilder("terrace 9;");
        for (int i = 0; i < 8; i++) {
            eight.append("soul ").append((char) ('a' + i)).append(" at ").append(i).append(" face 1 kind 1;");
        }
        CHECK.due("total of eight", Check.ask(Check.told(eight.toString()), "total " + million), 8000000);
        CHECK.due("total of eight", Check.ask(Check.told(eight.toString()), "total 0-" + million), -8000000);
        // In paints, minds and feud likewise.
        CHECK.due("paints(0, 1)", Check.told(TWO + "paints 1001*1000-999*1001+40;").paints(0, 1), 41);
        CHECK.due("feud(0)", Check.told(TWO + "feud 1001*1000=" + million + ";").feud(0), 1);
        Retouched x = Check.told(TWO + "minds 1001*1000-999*1001+4;");
        x.years(1);
        CHECK.due("thinks(0, 1)", x.thinks(0, 1), 5);
    }

    /** "/ gives the greatest whole number not above, by 0 it gives 0"; "All from the left on". */
    private static void divided() {
        answer("most 7/0", 0);
        answer("most 0/0", 0);
        answer("least (0-7)/0", 0);
        answer("most 7/(3-3)+4", 4);
        answer("most 8/2", 4);
        answer("most 9/2", 4);
        answer("most 1/2", 0);
        answer("most 0/5", 0);
        answer("most (0-1)/2", -1);
        answer("most (0-8)/2", -4);
        answer("most (0-9)/2", -5);
        answer("most 9/(0-2)", -5);
        answer("most 8/(0-2)", -4);
        answer("most (0-9)/(0-2)", 4);
        answer("most (0-1)/9999", -1);
        answer("most 1/(0-9999)", -1);
        answer("most (0-1000*1000)/(0-1)", 1000000);
        answer("most 100/7/2", 7);
        answer("most 100/7*7", 98);
        answer("most 10-3-2", 5);
        answer("most 10-3+2", 9);
        answer("most 2+3*4", 14);
        answer("most 20-6/4*2", 18);
        Retouched x = Check.told(TWO + "paints 7/0+face/0+3;minds thinks/(year*0);feud 1/0=0;");
        CHECK.due("paints(0, 1) by 0", x.paints(0, 1), 3);
        CHECK.due("feud(0) by 0", x.feud(0), 1);
        x.years(1);
        CHECK.due("thinks(0, 1) by 0", x.thinks(0, 1), 0);
    }

    /** "SUM SIGN SUM, SIGN < or > or =": one less, as much, one more; below 0, too. */
    private static void signs() {
        for (int left = 4; left <= 6; left++) {
            answer("often " + left + "<5", left < 5 ? 2 : 0);
            answer("often " + left + ">5", left > 5 ? 2 : 0);
            answer("often " + left + "=5", left == 5 ? 2 : 0);
            answer("often 0-" + left + "<0-5", left > 5 ? 2 : 0);
            answer("often 0-" + left + ">0-5", left < 5 ? 2 : 0);
            answer("often 0-" + left + "=0-5", left == 5 ? 2 : 0);
            CHECK.due("feud(0) of " + left, Check.told(TWO + "feud " + left + ">5;").feud(0), left > 5 ? 1 : 0);
        }
        // 'and' binds more than 'or', 'not' its FACT alone.
        answer("often all or all and not all", 2);
        answer("often not all and all or all", 2);
        answer("often [all or all]and not all", 0);
        answer("often not all or all", 2);
        answer("often not[all or all]", 0);
    }

    /** "Without: paints is look, minds is thinks, feud is thinks + back < 6". */
    private static void untoldRules() {
        for (int of = 0; of <= 9; of++) {
            for (int back = 0; back <= 9; back++) {
                Retouched x = Check.told(TWO + "thinks ann of bob " + of + ";thinks bob of ann " + back + ";");
                CHECK.due("feud(0) of " + of + " and " + back, x.feud(0), of + back < 6 ? 1 : 0);
                CHECK.due("paints(0, 1)", x.paints(0, 1), 10);
                x.years(1);
                CHECK.due("person(1, 1)", x.person(1, 1), 30);
                CHECK.due("thinks(0, 1)", x.thinks(0, 1), of);
                CHECK.due("thinks(1, 0)", x.thinks(1, 0), back);
            }
        }
    }

    /** "most SUM, least SUM (the greatest, the least of all; 0 without PEOPLE)"; "NONE of first, last, when its TEST holds for none". */
    private static void questionsOfNobody() {
        String[] asked = {"first all", "last all", "often all", "total 5", "most 5", "least 5", "most 0-5", "least 0-5"};
        int[] ofNobody = {-1, -1, 0, 0, 0, 0, 0, 0};
        int[] ofOne = {0, 0, 1, 5, 5, 5, -5, -5};
        int[] ofTwo = {0, 1, 2, 10, 5, 5, -5, -5};
        for (int i = 0; i < asked.length; i++) {
            CHECK.due(asked[i] + " of nobody", Check.ask(Check.told("terrace 5;"), asked[i]), ofNobody[i]);
            CHECK.due(asked[i] + " of one", Check.ask(Check.told(ONE), asked[i]), ofOne[i]);
            CHECK.due(asked[i] + " of two", Check.ask(Check.told(TWO), asked[i]), ofTwo[i]);
        }
        answer("first not all", -1);
        answer("last not all", -1);
        answer("often not all", 0);
        answer("first number=1", 1);
        answer("last number=0", 0);
        answer("most number-9", -8);
        answer("least number+9", 9);
    }

    /** "what he thinks of the PERSON of that number, what that one thinks of him: 0 for himself, for those that there are not". */
    private static void thoughtsOfNone() {
        StringBuilder eight = new StringBuilder("terrace 9;");
        for (int i = 0; i < 8; i++) {
            eight.append("soul ").append((char) ('a' + i)).append(" at ").append(i).append(" face 1 kind 1;");
        }
        Retouched x = Check.told(eight + "thinks a of h 9;thinks h of a 1;");
        CHECK.due("thinks 7", Check.ask(x, "total thinks 7"), 9 + 6 * 5);
        CHECK.due("back 7", Check.ask(x, "total back 7"), 1 + 6 * 5);
        CHECK.due("thinks 8", Check.ask(x, "total thinks 8"), 0);
        CHECK.due("back 8", Check.ask(x, "total back 8"), 0);
        CHECK.due("thinks 0", Check.ask(x, "total thinks 0"), 1 + 6 * 5);
        CHECK.due("thinks of himself", Check.ask(x, "most thinks number"), 0);
        CHECK.due("back of himself", Check.ask(x, "most back number"), 0);
        CHECK.due("thinks below 0", Check.ask(x, "most thinks(0-1)"), 0);
        CHECK.due("back below 0", Check.ask(x, "most back(0-1)"), 0);
        CHECK.due("thinks a million", Check.ask(x, "most thinks(9999*9999)"), 0);
        CHECK.due("back less a million", Check.ask(x, "most back(0-9999*9999)"), 0);
        answer("total thinks 1", 5);
        answer("total thinks 2", 0);
        answer("total back 1", 5);
        answer("total back 2", 0);
        CHECK.due("thinks 0 of one", Check.ask(Check.told(ONE), "total thinks 0+back 0"), 0);
        CHECK.due("thinks 1 of one", Check.ask(Check.told(ONE), "total thinks 1+back 1"), 0);
    }

    /** "1 as in I (an unknown word at its first byte; what stands behind it, too)". */
    private static void trailing() {
        for (String verb : VERBS) {
            boolean isTest = verb.equals("first") || verb.equals("last") || verb.equals("often");
            String rest = isTest ? " all" : " 1";
            askFault(1, verb + rest + "|;");
            askFault(1, verb + rest + " |x");
            askFault(1, verb + rest + " |" + verb + rest);
            askFault(1, verb + rest + "\n|7");
            askFault(1, verb + rest + "|)");
            askFault(1, verb + rest + "|" + (char) 0);
            askFault(1, isTest ? verb + " 1|" : verb + " 1|<2");
            askFault(1, isTest ? verb + " |x" : verb + " |all");
            askFault(1, "|" + verb + "s" + rest);
            askFault(1, "|" + verb.substring(1) + rest);
        }
        askFault(1, "|all");
        askFault(1, "|1");
        askFault(1, "|ann");
        askFault(1, "total |ann");
        askFault(1, "total thinks |bob");
        askFault(1, "|terrace 5;");
    }

    /** "Of the latest terrace() or ask(): its FAULT (what 0; 0 without, and ahead of any), its place (1; NONE without)". */
    private static void latestFault() {
        Retouched x = new Retouched();
        faultIs(x, "a new object", 0, -1);
        x.see();
        x.on();
        x.undo();
        faultIs(x, "what is no text", 0, -1);
        Check.terrace(x, "terrace 5");
        faultIs(x, "a terrace that ends too soon", 1, 9);
        Check.terrace(x, "terrace 10;");
        faultIs(x, "a wrong number", 2, 8);
        Check.terrace(x, TWO);
        faultIs(x, "a sound terrace", 0, -1);
        Check.ask(x, "total ((((((((1");
        faultIs(x, "a deep question", 4, 12);
        Check.see(x, 99, 99, 99);
        Check.on(x, 9, 9, 9);
        x.years(0);
        faultIs(x, "refused calls that are no text", 4, 12);
        Check.ask(x, "first not all");
        faultIs(x, "a question whose answer is NONE", 0, -1);
        Check.ask(x, "");
        faultIs(x, "no question", 1, 0);
        Check.terrace(x, "terrace 5;paints 1;paints 1;");
        faultIs(x, "a second paints", 5, 19);
        Check.terrace(x, "terrace 5;thinks x");
        faultIs(x, "a name that is none", 3, 17);
        Check.ask(x, "total 1");
        faultIs(x, "a sound question", 0, -1);
        CHECK.due("fault(-1)", x.fault(-1), -1);
        CHECK.due("fault(2)", x.fault(2), -1);
        // The last place of the longest text.
        Check.terrace(x, "terrace 5;" + repeat(" ", 1589) + "?");
        faultIs(x, "the 1600th byte", 1, 1599);
        Check.terrace(x, "terrace 5" + repeat(" ", 1591));
        faultIs(x, "a text of 1600 that ends too soon", 1, 1600);
    }

    private static void faultIs(Retouched x, String behind, int kind, int place) {
        CHECK.due("fault(0) behind " + behind, x.fault(0), kind);
        CHECK.due("fault(1) behind " + behind, x.fault(1), place);
    }

    /** "Letter k (0 .. 5) of the NAME of a PERSON: 1 .. 26; 0 behind it; NONE when there is none such". */
    private static void letters() {
        Retouched x = Check.told("terrace 5;soul a at 0 face 1 kind 1;soul zzzzzz at 1 face 1 kind 1;soul azaz at 2 face 1 kind 1;");
        int[][] due = {{1, 0, 0, 0, 0, 0}, {26, 26, 26, 26, 26, 26}, {1, 26, 1, 26, 0, 0}};
        for (int person = -1; person <= 3; person++) {
            for (int k = -1; k <= 6; k++) {
                boolean isThere = person >= 0 && person < 3 && k >= 0 && k < 6;
                CHECK.due("letter(" + person + ", " + k + ")", x.letter(person, k), isThere ? due[person][k] : -1);
            }
        }
        String all = "abcdefghijklmnopqrstuvwxyz";
        for (int i = 0; i < 26; i++) {
            CHECK.due("letter of " + all.charAt(i), Check.told("terrace 5;soul x" + all.charAt(i) + " at 0 face 1 kind 1;").letter(0, 1), i + 1);
        }
        // A shorter name where a longer one was.
        Check.terrace(x, "terrace 5;soul q at 0 face 1 kind 1;soul r at 1 face 1 kind 1;");
        Check.terrace(x, "terrace 5;soul q at 0 face 1 kind 1;soul r at 1 face 1 kind 1;");
        CHECK.due("letter(1, 0) of a shorter one", x.letter(1, 0), 18);
        CHECK.due("letter(1, 1) of a shorter one", x.letter(1, 1), 0);
        CHECK.due("letter(2, 0) of one who is no more", x.letter(2, 0), -1);
    }

    /** "NOTHING with a FAULT, or, doing nothing else, without a terrace"; "The tape (it goes)". */
    private static void askedWithoutTerrace() {
        Retouched x = new Retouched();
        CHECK.due("ask() of a sound question", Check.ask(x, "total 1"), NOTHING);
        CHECK.due("the tape goes", x.end(1), false);
        CHECK.due("ask() of none", x.ask(), NOTHING);
        faultIs(x, "questions without a terrace", 0, -1);
        Check.terrace(x, "terrace 5");
        Check.ask(x, "total 1 1");
        faultIs(x, "a faulty question without a terrace", 1, 9);
        Check.ask(x, "total 1");
        faultIs(x, "a sound question without a terrace", 1, 9);
        Check.terrace(x, "terrace 5;");
        CHECK.due("ask() with a terrace of nobody", Check.ask(x, "total 1"), 0);
        CHECK.due("NOTHING", Retouched.NOTHING, -1000000000000000L);
        CHECK.due("NONE", Retouched.NONE, -1);
    }
}
