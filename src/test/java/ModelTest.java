import java.util.Random;

/** All promises at once: runs made by chance, each answer compared with the plain model's. */
public final class ModelTest {
    private static final int RUNS = 600;
    private static final int CALLS = 500;
    private static int made = 0;

    private final Random random;
    private final Texts texts;
    private final Retouched x = new Retouched();
    private final Model model = new Model();
    private final StringBuilder told = new StringBuilder();
    private int calls = 0;

    private ModelTest(long seed) {
        random = new Random(seed);
        texts = new Texts(random);
    }

    public static void main(String[] args) {
        int wrong = 0;
        int from = args.length > 0 ? Integer.parseInt(args[0]) : 0;
        int runs = args.length > 1 ? Integer.parseInt(args[1]) : RUNS;
        for (int seed = from; seed < from + runs && wrong < 5; seed++) {
            wrong += new ModelTest(seed).run(seed) ? 0 : 1;
        }
        System.out.println("ModelTest: " + made + " answers, " + wrong + " runs wrong");
        System.exit(wrong == 0 && made > 0 ? 0 : 1);
    }

    private boolean run(int seed) {
        if (below(10) != 0 && !terrace(texts.terrace())) {
            return fail(seed);
        }
        while (calls < CALLS) {
            if (!step()) {
                return fail(seed);
            }
        }
        return true;
    }

    private boolean fail(int seed) {
        System.out.println("ModelTest: run " + seed + " differs:\n" + told);
        return false;
    }

    private int below(int n) {
        return random.nextInt(n);
    }

    /** Mostly a number that can be, at times an edge or a wild one. */
    private int number(int n) {
        switch (below(40)) {
            case 0: return -1;
            case 1: return n;
            case 2: return below(3) == 0 ? random.nextInt() : n + 1;
            default: return below(n);
        }
    }

    private int someone() {
        return number(Math.max(1, model.now.people.size()));
    }

    /** Mostly one who lives beside that person. */
    private int someoneBeside(int person) {
        int beside = model.person(person, 5 + below(2));
        return beside >= 0 && below(4) != 0 ? beside : someone();
    }

    private int somewhere() {
        return number(Math.max(1, model.now.houses));
    }

    private boolean same(String call, long got, long want) {
        made++;
        calls++;
        told.append(call).append(" answered ").append(got).append(", the model ").append(want).append('\n');
        return got == want;
    }

    private boolean same(String call, boolean got, boolean want) {
        return same(call, got ? 1 : 0, want ? 1 : 0);
    }

    private boolean terrace(String text) {
        return tape(text) && same("terrace()", x.terrace(), model.terrace()) && fault();
    }

    private boolean fault() {
        return same("fault(0)", x.fault(0), model.fault(0)) && same("fault(1)", x.fault(1), model.fault(1));
    }

    private boolean tape(String full) {
        String text = full.length() > 1600 ? full.substring(0, 1600) : full;
        told.append("tape: ").append(text).append('\n');
        if (!same("end(0)", x.end(0), model.end(0))) {
            return false;
        }
        for (int from = 0; from < text.length(); from += 20) {
            int[] n = new int[5];
            for (int i = 0; i < 20; i++) {
                n[i / 4] = n[i / 4] << 8 | (from + i < text.length() ? text.charAt(from + i) & 255 : below(256));
            }
            if (!same("feed", x.feed(n[0], n[1], n[2], n[3], n[4]), model.feed(n))) {
                return false;
            }
        }
        return same("end(" + text.length() + ")", x.end(text.length()), model.end(text.length()));
    }

    private boolean question() {
        String text = below(4) == 0 ? below(2) == 0 ? "often " + texts.nest("question", 4 + below(4))
                : "total " + texts.nest("paints", 4 + below(4)) : texts.question();
        text = below(3) == 0 ? texts.spoiled(text) : text;
        return tape(text) && same("ask()", x.ask(), model.ask()) && fault();
    }

    private boolean rows() {
        int count = below(8) == 0 ? below(19) : 1 + below(2);
        StringBuilder rows = new StringBuilder();
        int thinker = someone();
        int of = someoneBeside(thinker);
        // Rows that a hidden thought, or a hidden face, would bring, so that something is left to be found.
        Model.State hidden = model.now.two(thinker, of) ? model.thinking(thinker, of, below(10)) : model.now.copy();
        if (model.now.is(of) && below(3) == 0) {
            hidden.people.get(of).face = below(10);
        }
        for (int i = 0; i < count; i++) {
            int years = below(20) == 0 ? below(256) : below(4) == 0 ? below(31) : below(4);
            int person = below(30) == 0 ? below(256) : below(2) == 0 && model.now.is(of) ? of
                    : below(Math.max(1, model.now.people.size()));
            boolean can = model.now.is(person) && model.can(years, 0, 30);
            int look = can ? model.after(hidden, years).people.get(person).portrait : -1;
            rows.append((char) years).append((char) person);
            rows.append((char) (look < 0 || below(20) == 0 ? below(110) : look));
        }
        rows.setLength(Math.max(0, rows.length() - (below(12) == 0 ? 1 : 0)));
        if (!tape(rows.toString()) || !same("see()", x.see(), model.see())) {
            return false;
        }
        return same("thoughts(" + thinker + ", " + of + ")", x.thoughts(thinker, of), model.thoughts(thinker, of))
                && same("tells(" + thinker + ", " + of + ", 0)", x.tells(thinker, of, 0), model.tells(thinker, of, 0))
                && same("tells(" + thinker + ", " + of + ", 1)", x.tells(thinker, of, 1), model.tells(thinker, of, 1))
                && same("faces(" + of + ")", x.faces(of), model.faces(of));
    }

    private boolean picture() {
        if (!same("image()", x.image(), model.image())) {
            return false;
        }
        StringBuilder bytes = new StringBuilder();
        for (int k = -1; k <= model.picture.length; k++) {
            if (x.octet(k) != model.octet(k)) {
                return same("octet(" + k + ")", x.octet(k), model.octet(k));
            }
            bytes.append(model.octet(k) < 0 ? "" : (char) model.octet(k));
        }
        if (below(3) == 0) {
            return true;
        }
        if (below(2) == 0) {
            int at = below(Math.max(1, bytes.length()));
            bytes.setCharAt(at, (char) (below(3) == 0 ? below(256) : below(12)));
        }
        if (below(3) == 0) {
            bytes.setCharAt(0, (char) 3);
            bytes.setCharAt(1, (char) (225 + below(10)));
        }
        if (below(5) != 0) {
            mendCheck(bytes);
        }
        if (below(15) == 0) {
            bytes.append((char) 0);
        }
        return tape(bytes.toString()) && same("on()", x.on(), model.on());
    }

    private static void mendCheck(StringBuilder bytes) {
        int c = 149;
        for (int k = 0; k < bytes.length() - 1; k++) {
            c = (3 * c + bytes.charAt(k)) % 251;
        }
        bytes.setCharAt(bytes.length() - 1, (char) c);
    }

    private boolean step() {
        switch (below(40)) {
            case 0: return below(3) != 0 || terrace(texts.terrace());
            case 1: return terrace(below(3) == 0 ? texts.edge() : texts.spoiled(texts.terrace()));
            case 2:
            case 3:
            case 4: return question();
            case 5: return rows();
            case 6: return picture();
            case 7: {
                int n = number(30);
                return same("end(" + n + ")", x.end(n), model.end(n));
            }
            case 8:
            case 9:
            case 10: {
                int n = below(6) == 0 ? number(101) : 1 + below(4);
                return same("years(" + n + ")", x.years(n), model.years(n));
            }
            case 11: {
                int n = below(6) == 0 ? number(101) : 1 + below(4);
                return same("chance(" + n + ")", x.chance(n), model.chance(n));
            }
            case 12: return same("undo()", x.undo(), model.undo());
            case 13: {
                int n = below(3) == 0 ? random.nextInt() : below(1000);
                return same("seed(" + n + ")", x.seed(n), model.seed(n));
            }
            case 14:
            case 15: {
                int p = someone();
                int on = number(2);
                return same("spare(" + p + ", " + on + ")", x.spare(p, on), model.spare(p, on));
            }
            case 16: {
                int p = someone();
                return same("right(" + p + ")", x.right(p), model.right(p));
            }
            case 17:
            case 18: {
                int a = somewhere();
                int b = somewhere();
                return same("change(" + a + ", " + b + ")", x.change(a, b), model.change(a, b));
            }
            default: return look();
        }
    }

    private boolean look() {
        int p = someone();
        int q = someoneBeside(p);
        int n = below(3) == 0 ? number(61) : number(6);
        int w = number(3);
        int h = somewhere();
        switch (below(20)) {
            case 0: return all();
            case 1: return same("letter(" + p + ", " + n + ")", x.letter(p, n), model.letter(p, n));
            case 2: return same("house(" + h + ")", x.house(h), model.house(h));
            case 3: return same("person(" + p + ", " + n + ")", x.person(p, n), model.person(p, n));
            case 4: return same("thinks(" + p + ", " + q + ")", x.thinks(p, q), model.thinks(p, q));
            case 5: return same("paints(" + p + ", " + w + ")", x.paints(p, w), model.paints(p, w));
            case 6: return same("feud(" + h + ")", x.feud(h), model.feud(h));
            case 7: return same("kept(" + n + ", " + w + ")", x.kept(n, w), model.kept(n, w));
            case 8: return same("later(" + p + ", " + n + ")", x.later(p, n), model.later(p, n));
            case 9: return same("mind(" + p + ", " + q + ", " + n + ")", x.mind(p, q, n), model.mind(p, q, n));
            case 10: return same("curtain(" + p + ")", x.curtain(p), model.curtain(p));
            case 11: {
                int y = below(4) == 0 ? number(21) : 1 + below(3);
                return same("changed(" + y + ", " + w + ")", x.changed(y, w), model.changed(y, w));
            }
            case 12: {
                int y = below(4) == 0 ? number(21) : 1 + below(3);
                int f = number(10);
                int k = number(10);
                return same("stranger(" + f + ", " + k + ", " + y + ", " + w + ")", x.stranger(f, k, y, w),
                        model.stranger(f, k, y, w));
            }
            case 13: return same("parted()", x.parted(), model.parted());
            case 14: {
                int y = below(8) == 0 ? number(21) : 1 + below(3);
                return below(4) != 0 || same("rest(" + y + ")", x.rest(y), model.rest(y));
            }
            case 15: return same("thoughts(" + p + ", " + q + ")", x.thoughts(p, q), model.thoughts(p, q));
            case 16: return same("faces(" + p + ")", x.faces(p), model.faces(p));
            case 17: return below(3) != 0
                    || same("tells(" + p + ", " + q + ", " + w + ")", x.tells(p, q, w), model.tells(p, q, w));
            case 18: return same("status(" + n + ")", x.status(n), model.status(n));
            default: return same("has(" + n + ")", x.has(n), model.has(n));
        }
    }

    private boolean all() {
        boolean good = true;
        for (int what = -1; what <= 10; what++) {
            good = good && same("has(" + what + ")", x.has(what), model.has(what));
        }
        for (int p = 0; p < model.now.people.size(); p++) {
            good = good && same("person(" + p + ", 1)", x.person(p, 1), model.person(p, 1));
        }
        return good;
    }
}
