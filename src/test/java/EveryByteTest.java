/**
 * Faults along the text: of a sound text each byte is put otherwise by every other byte, left out, doubled, or the
 * text is cut there; what comes of it is compared with the plain model's answer and fault.
 */
public final class EveryByteTest {
    private static final Check CHECK = new Check("EveryByteTest");
    private static final String TERRACE = "terrace 5;soul ann at 0 face 1 kind 2;soul b at\n4 face 09 kind 0;thinks ann of b 7;"
            + "paints max(look,3)-(face/2)*side+year;minds gain+min(1 ,thinks);feud not[thinks<back or all]and 12=kind;slip 100;";
    private static final String[] QUESTIONS = {
        "often not[thinks 0<back(number+1)or all]and spares=1", "total max(look,3)-(face/2)*house+min(1 ,year)\n",
        "first kind>thinks thinks back 1", "least 1234", "most((((((look))))))+0", "last not not not not not[1<2]or all"};

    public static void main(String[] args) {
        everyChange(TERRACE, false);
        for (String question : QUESTIONS) {
            everyChange(question, true);
        }
        CHECK.finish();
    }

    private static void everyChange(String text, boolean isQuestion) {
        compare(text, isQuestion);
        for (int at = 0; at <= text.length(); at++) {
            String ahead = text.substring(0, at);
            compare(ahead, isQuestion);
            if (at < text.length()) {
                String behind = text.substring(at + 1);
                compare(ahead + behind, isQuestion);
                compare(ahead + text.charAt(at) + text.substring(at), isQuestion);
                for (int b = 0; b < 256; b++) {
                    compare(ahead + (char) b + behind, isQuestion);
                }
            }
        }
    }

    private static void compare(String text, boolean isQuestion) {
        Retouched x = isQuestion ? Check.told(TERRACE) : new Retouched();
        Model model = new Model();
        if (isQuestion) {
            put(model, TERRACE);
            model.terrace();
        }
        put(model, text);
        String name = (isQuestion ? "ask() of " : "terrace() of ") + text;
        Check.text(x, text);
        CHECK.due(name, isQuestion ? x.ask() : x.terrace(), isQuestion ? model.ask() : model.terrace());
        CHECK.due("fault(0) of " + text, x.fault(0), model.fault(0));
        CHECK.due("fault(1) of " + text, x.fault(1), model.fault(1));
    }

    private static void put(Model model, String text) {
        for (int from = 0; from < text.length(); from += 20) {
            int[] n = new int[5];
            for (int i = 0; i < 20; i++) {
                n[i / 4] = n[i / 4] << 8 | (from + i < text.length() ? text.charAt(from + i) : 0);
            }
            model.feed(n);
        }
        model.end(text.length());
    }
}
