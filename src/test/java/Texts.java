import java.util.ArrayList;
import java.util.Collections;
import java.util.List;
import java.util.Random;

/** Texts made by chance: terraces and questions, sound ones and spoiled ones. */
final class Texts {
    private static final String[] NAMES = {"ann", "bob", "cid", "a", "z", "first", "total", "abcdef", "dora", "eve", "most", "zz"};
    private static final String SPOILERS = " \n;()[]<>=+-*/,09azAZ_\t\rx5";
    private static final String[] SPOILING_WORDS = {"not", "all", "look", "terrace", "soul", "12345", "abcdefg", "10", "or", "thinks", "(", "[", ";", "gain", "99999", "spares"};

    private final Random random;

    Texts(Random random) {
        this.random = random;
    }

    private int below(int n) {
        return random.nextInt(n);
    }

    private String pick(String... of) {
        return of[below(of.length)];
    }

    private String blank() {
        return below(8) == 0 ? pick("  ", "\n", " \n ") : " ";
    }

    private String maybeBlank() {
        return below(5) == 0 ? blank() : "";
    }

    String terrace() {
        StringBuilder text = new StringBuilder(maybeBlank());
        int houses = 2 + below(8);
        text.append("terrace").append(blank()).append(houses).append(maybeBlank()).append(';').append(maybeBlank());
        List<String> names = new ArrayList<>(List.of(NAMES));
        Collections.shuffle(names, random);
        List<Integer> free = new ArrayList<>();
        for (int h = 0; h < houses; h++) {
            free.add(h);
        }
        Collections.shuffle(free, random);
        int people = Math.min(8, Math.min(houses, below(6) == 0 ? below(3) : 2 + below(8)));
        List<String> rest = new ArrayList<>();
        for (int p = 0; p < people; p++) {
            text.append("soul").append(blank()).append(names.get(p)).append(blank()).append("at").append(blank())
                    .append(free.get(p)).append(" face ").append(below(10)).append(blank()).append("kind ")
                    .append(below(10)).append(maybeBlank()).append(";").append(maybeBlank());
        }
        for (int i = below(8); i > 0 && people > 1; i--) {
            int a = below(people);
            int b = (a + 1 + below(people - 1)) % people;
            rest.add("thinks " + names.get(a) + blank() + "of " + names.get(b) + blank() + below(10));
        }
        if (below(6) != 0) {
            rest.add("paints " + paints());
        }
        if (below(6) != 0) {
            rest.add("minds " + minds());
        }
        if (below(4) != 0) {
            rest.add("feud " + test("feud", depth()));
        }
        if (below(3) != 0) {
            rest.add("slip " + (below(4) == 0 ? 100 : below(101)));
        }
        Collections.shuffle(rest, random);
        for (String statement : rest) {
            text.append(statement).append(maybeBlank()).append(';').append(maybeBlank());
        }
        return text.toString();
    }

    private int depth() {
        return below(6) == 0 ? 6 : 3;
    }

    /** A nest of as many levels, which may be one too many; the rest of the text then is small. */
    String nest(String where, int levels) {
        if (levels == 0) {
            return where.equals("question") || where.equals("feud") ? "face<kind" : "kind";
        }
        switch (below(where.equals("feud") || where.equals("question") ? 3 : 1)) {
            case 0: return where.equals("feud") || where.equals("question")
                    ? innerSum(where, levels) + pick("<", "=", ">") + "3" : innerSum(where, levels);
            case 1: return "not " + nest(where, levels - 1);
            default: return "[" + nest(where, levels - 1) + "]";
        }
    }

    private String innerSum(String where, int levels) {
        if (levels == 0) {
            return "kind";
        }
        switch (below(where.equals("question") ? 5 : 3)) {
            case 0: return "(" + innerSum(where, levels - 1) + ")" + pick("", "+1", "*2");
            case 1: return pick("1-", "") + "min(" + innerSum(where, levels - 1) + ",face)";
            case 2: return "max (7," + innerSum(where, levels - 1) + ")";
            case 3: return "thinks " + innerPart(where, levels - 1);
            default: return "back " + innerPart(where, levels - 1);
        }
    }

    private String innerPart(String where, int levels) {
        return levels == 0 ? "" + below(9) : pick("(" + innerSum(where, levels - 1) + ")", "thinks " + innerPart(where, levels - 1));
    }

    /** A terrace with many statements or deep rules, at the edges of what a text may hold. */
    String edge() {
        StringBuilder text = new StringBuilder("terrace 9;");
        int people = below(3) == 0 ? 7 + below(3) : 2;
        for (int p = 0; p < people; p++) {
            text.append("soul ").append((char) ('a' + p)).append(" at ").append(p).append(" face 5 kind ").append(p % 9).append(';');
        }
        for (String rule : new String[] {"paints", "minds", "feud"}) {
            if (below(2) == 0) {
                text.append(rule).append(' ').append(nest(rule, 4 + below(4))).append(';');
            }
        }
        int fill = below(4) == 0 ? 76 + below(6) : below(4);
        for (int count = (int) text.chars().filter(c -> c == ';').count(); count < fill; count++) {
            text.append("slip ").append(below(100)).append(';');
        }
        return text.append(below(5) == 0 ? pick("soul", "paints 1;", "?", "feud all;", "terrace", "minds 0;") : "").toString();
    }

    private String paints() {
        switch (below(6)) {
            case 0: return "look+thinks*2-face+side";
            case 1: return "look-" + below(15);
            case 2: return "look+(thinks-5)*kind-year/7";
            case 3: return "look*(thinks+3)/8+kind-side*3";
            case 4: return "max(look-9,min(99,face*kind))-thinks/2";
            default: return sum("paints", depth());
        }
    }

    private String minds() {
        switch (below(5)) {
            case 0: return "thinks+gain/4";
            case 1: return "thinks+gain/10-1";
            case 2: return "9-thinks";
            case 3: return "kind+gain-face/2";
            default: return sum("minds", depth());
        }
    }

    String question() {
        String verb = pick("first", "last", "often", "total", "most", "least");
        boolean isTest = verb.equals("first") || verb.equals("last") || verb.equals("often");
        return maybeBlank() + verb + blank() + (isTest ? test("question", depth()) : sum("question", depth())) + maybeBlank();
    }

    private String test(String where, int depth) {
        StringBuilder text = new StringBuilder(fact(where, depth));
        while (below(3) == 0) {
            text.append(blank()).append(pick("or", "and")).append(blank()).append(fact(where, depth));
        }
        return text.toString();
    }

    private String fact(String where, int depth) {
        int kind = depth > 0 ? below(7) : 3 + below(4);
        switch (kind) {
            case 0: return "not " + fact(where, depth - 1);
            case 1: return "[" + maybeBlank() + test(where, depth - 1) + "]";
            case 2: return "all";
            default: return sum(where, depth) + maybeBlank() + pick("<", ">", "=") + maybeBlank() + sum(where, depth);
        }
    }

    private String sum(String where, int depth) {
        StringBuilder text = new StringBuilder(part(where, depth));
        while (below(5) < 2) {
            text.append(maybeBlank()).append(pick("+", "-", "*", "/")).append(maybeBlank()).append(part(where, depth));
        }
        return text.toString();
    }

    private String part(String where, int depth) {
        int kind = depth > 0 ? below(9) : 3 + below(6);
        switch (kind) {
            case 0: return "(" + sum(where, depth - 1) + maybeBlank() + ")";
            case 1: return pick("min", "max") + maybeBlank() + "(" + sum(where, depth - 1) + "," + sum(where, depth - 1) + ")";
            case 2: return where.equals("question") ? pick("thinks", "back") + " " + part(where, depth - 1) : "" + below(12);
            case 3: return "" + below(12);
            case 4: return "" + (below(4) == 0 ? below(10000) : below(100));
            default: break;
        }
        switch (where) {
            case "paints": return pick("face", "kind", "thinks", "year", "look", "side", "look");
            case "minds": return pick("face", "kind", "thinks", "year", "gain", "thinks");
            case "feud": return pick("face", "kind", "thinks", "year", "back", "thinks");
            default: return pick("number", "house", "look", "face", "kind", "spares", "year");
        }
    }

    private void spoilNumber(StringBuilder text) {
        for (int at = below(text.length()); at < text.length(); at++) {
            if (Character.isDigit(text.charAt(at))) {
                text.insert(at, pick("1", "0", "000", "0000", "9", "12"));
                return;
            }
        }
    }

    /** The text with a few bytes or words put in, taken out or cut off. */
    String spoiled(String text) {
        StringBuilder spoiled = new StringBuilder(text);
        for (int i = 1 + below(3); i > 0 && spoiled.length() > 0; i--) {
            int at = below(spoiled.length());
            switch (below(9)) {
                case 7:
                case 8: spoilNumber(spoiled); break;
                case 0: spoiled.deleteCharAt(at); break;
                case 1: spoiled.setCharAt(at, SPOILERS.charAt(below(SPOILERS.length()))); break;
                case 2: spoiled.insert(at, SPOILERS.charAt(below(SPOILERS.length()))); break;
                case 3: spoiled.insert(at, " " + pick(SPOILING_WORDS) + " "); break;
                case 4: spoiled.setLength(at); break;
                case 5: spoiled.setCharAt(at, (char) below(256)); break;
                default: spoiled.append(text, text.lastIndexOf(';', at) + 1, text.length()); break;
            }
        }
        return spoiled.toString();
    }
}
