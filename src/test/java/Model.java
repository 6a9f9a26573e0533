import java.util.ArrayDeque;
import java.util.ArrayList;
import java.util.Arrays;
import java.util.Deque;
import java.util.HashMap;
import java.util.List;
import java.util.Map;
import java.util.Set;
import java.util.TreeMap;

/** The document once more, written for plainness alone and apart from the class, to compare runs with. */
final class Model {
    static final Set<String> OWN = Set.of("terrace", "soul", "at", "face", "kind", "thinks", "of", "paints", "minds",
            "feud", "slip", "look", "side", "gain", "back", "year", "number", "house", "spares", "or", "and", "not",
            "all", "min", "max");

    static final class Fault extends RuntimeException {
        private static final long serialVersionUID = 1;
        final int kind;
        final int place;

        Fault(int kind, int place) {
            this.kind = kind;
            this.place = place;
        }
    }

    interface Sum {
        long of(Map<String, Long> values, State state);
    }

    interface Test {
        boolean of(Map<String, Long> values, State state);
    }

    static final class Person {
        String name;
        int house;
        int portrait;
        int face;
        int kind;
        boolean spares;
        int[] thinks = new int[9];

        Person copy() {
            Person p = new Person();
            p.name = name;
            p.house = house;
            p.portrait = portrait;
            p.face = face;
            p.kind = kind;
            p.spares = spares;
            p.thinks = thinks.clone();
            return p;
        }
    }

    static final class State {
        int houses = 0;
        int year = 0;
        List<Person> people = new ArrayList<>();
        List<int[]> kept = new ArrayList<>();

        State copy() {
            State s = new State();
            s.houses = houses;
            s.year = year;
            for (Person p : people) {
                s.people.add(p.copy());
            }
            s.kept.addAll(kept);
            return s;
        }

        int at(int house) {
            for (int i = 0; i < people.size(); i++) {
                if (people.get(i).house == house) {
                    return i;
                }
            }
            return -1;
        }

        boolean is(int person) {
            return person >= 0 && person < people.size();
        }

        boolean two(int a, int b) {
            return is(a) && is(b) && a != b;
        }

        long total() {
            return people.stream().mapToInt(p -> p.portrait).sum();
        }

        void enter(String name, int house, int face, int kind) {
            Person p = new Person();
            p.name = name;
            p.house = house;
            p.face = face;
            p.kind = kind;
            p.portrait = 10 * face;
            Arrays.fill(p.thinks, 5);
            people.add(p);
        }
    }

    static final class Plan {
        State first = new State();
        Sum paints;
        Sum minds;
        Test feud;
        int slip = 0;
        int statements = 0;
    }

    /** A parser by the grammar's own levels. */
    static final class Parser {
        final String text;
        int at = 0;
        int open = 0;
        String where = "";
        boolean wordBefore = false;

        Parser(String text) {
            this.text = text;
        }

        void blanks() {
            while (at < text.length() && (text.charAt(at) == ' ' || text.charAt(at) == '\n')) {
                at++;
                wordBefore = false;
            }
        }

        static boolean letter(char c) {
            return c >= 'a' && c <= 'z';
        }

        static boolean digit(char c) {
            return c >= '0' && c <= '9';
        }

        char next() {
            blanks();
            return at < text.length() ? text.charAt(at) : (char) 999;
        }

        Fault one() {
            blanks();
            return new Fault(1, at);
        }

        String peek() {
            char c = next();
            if (!letter(c) || wordBefore) {
                return "";
            }
            int to = at;
            while (to < text.length() && letter(text.charAt(to))) {
                to++;
            }
            return text.substring(at, to);
        }

        boolean sees(String word) {
            return peek().equals(word);
        }

        void word(String word) {
            if (!sees(word)) {
                throw one();
            }
            at += word.length();
            wordBefore = true;
        }

        boolean sees(char sign) {
            return next() == sign;
        }

        void sign(char sign) {
            if (!sees(sign)) {
                throw one();
            }
            at++;
            wordBefore = false;
        }

        int number() {
            if (!digit(next()) || wordBefore) {
                throw one();
            }
            int start = at;
            int value = 0;
            int count = 0;
            while (at < text.length() && digit(text.charAt(at))) {
                if (++count == 5) {
                    throw new Fault(1, at);
                }
                value = 10 * value + text.charAt(at) - '0';
                at++;
            }
            wordBefore = true;
            last = start;
            return value;
        }

        int last;

        int number(int least, int most) {
            int value = number();
            if (value < least || value > most) {
                throw new Fault(2, last);
            }
            return value;
        }

        String name() {
            String word = peek();
            if (word.isEmpty() || OWN.contains(word)) {
                throw one();
            }
            if (word.length() > 6) {
                throw new Fault(1, at + 6);
            }
            last = at;
            at += word.length();
            wordBefore = true;
            return word;
        }

        void opens() {
            blanks();
            if (open == 6) {
                throw new Fault(4, at);
            }
            open++;
        }

        Test test() {
            Test left = both();
            while (sees("or")) {
                word("or");
                Test a = left;
                Test b = both();
                left = (v, s) -> a.of(v, s) | b.of(v, s);
            }
            return left;
        }

        Test both() {
            Test left = fact();
            while (sees("and")) {
                word("and");
                Test a = left;
                Test b = fact();
                left = (v, s) -> a.of(v, s) & b.of(v, s);
            }
            return left;
        }

        Test fact() {
            if (sees("not")) {
                opens();
                word("not");
                Test a = fact();
                open--;
                return (v, s) -> !a.of(v, s);
            }
            if (sees('[')) {
                opens();
                sign('[');
                Test a = test();
                sign(']');
                open--;
                return a;
            }
            if (sees("all")) {
                word("all");
                return (v, s) -> true;
            }
            Sum a = sum();
            char sign = next();
            if (sign != '<' && sign != '>' && sign != '=') {
                throw one();
            }
            sign(sign);
            Sum b = sum();
            return sign == '<' ? (v, s) -> a.of(v, s) < b.of(v, s)
                    : sign == '>' ? (v, s) -> a.of(v, s) > b.of(v, s) : (v, s) -> a.of(v, s) == b.of(v, s);
        }

        static long hold(long n) {
            return n > 1_000_000 ? 1_000_000 : n < -1_000_000 ? -1_000_000 : n;
        }

        Sum sum() {
            Sum left = product();
            while (sees('+') || sees('-')) {
                char sign = next();
                sign(sign);
                Sum a = left;
                Sum b = product();
                left = sign == '+' ? (v, s) -> hold(a.of(v, s) + b.of(v, s)) : (v, s) -> hold(a.of(v, s) - b.of(v, s));
            }
            return left;
        }

        Sum product() {
            Sum left = part();
            while (sees('*') || sees('/')) {
                char sign = next();
                sign(sign);
                Sum a = left;
                Sum b = part();
                left = sign == '*' ? (v, s) -> hold(a.of(v, s) * b.of(v, s)) : (v, s) -> {
                    long under = b.of(v, s);
                    return under == 0 ? 0 : (long) Math.floor((double) a.of(v, s) / under);
                };
            }
            return left;
        }

        Set<String> values() {
            switch (where) {
                case "paints":
                    return Set.of("face", "kind", "thinks", "year", "look", "side");
                case "minds":
                    return Set.of("face", "kind", "thinks", "year", "gain");
                case "feud":
                    return Set.of("face", "kind", "thinks", "year", "back");
                default:
                    return Set.of("number", "house", "look", "face", "kind", "spares", "year");
            }
        }

        Sum part() {
            if (digit(next()) && !wordBefore) {
                long n = number();
                return (v, s) -> n;
            }
            if (sees('(')) {
                opens();
                sign('(');
                Sum a = sum();
                sign(')');
                open--;
                return a;
            }
            String word = peek();
            if (values().contains(word)) {
                word(word);
                return (v, s) -> v.get(word);
            }
            if (word.equals("min") || word.equals("max")) {
                word(word);
                if (!sees('(')) {
                    throw one();
                }
                opens();
                sign('(');
                Sum a = sum();
                sign(',');
                Sum b = sum();
                sign(')');
                open--;
                return word.equals("min") ? (v, s) -> Math.min(a.of(v, s), b.of(v, s))
                        : (v, s) -> Math.max(a.of(v, s), b.of(v, s));
            }
            if (where.equals("question") && (word.equals("thinks") || word.equals("back"))) {
                opens();
                word(word);
                Sum a = part();
                open--;
                return (v, s) -> {
                    long me = v.get("number");
                    long one = a.of(v, s);
                    if (one < 0 || one >= s.people.size() || one == me) {
                        return 0;
                    }
                    return word.equals("thinks") ? s.people.get((int) me).thinks[(int) one]
                            : s.people.get((int) one).thinks[(int) me];
                };
            }
            throw one();
        }

        Plan terrace() {
            Plan plan = new Plan();
            State first = plan.first;
            word("terrace");
            first.houses = number(2, 9);
            sign(';');
            plan.statements = 1;
            blanks();
            while (at < text.length()) {
                if (plan.statements == 80) {
                    throw new Fault(5, at);
                }
                statement(plan);
                sign(';');
                plan.statements++;
                blanks();
            }
            if (plan.paints == null) {
                plan.paints = (v, s) -> v.get("look");
            }
            if (plan.minds == null) {
                plan.minds = (v, s) -> v.get("thinks");
            }
            if (plan.feud == null) {
                plan.feud = (v, s) -> v.get("thinks") + v.get("back") < 6;
            }
            return plan;
        }

        void statement(Plan plan) {
            State first = plan.first;
            String word = peek();
            int start = at;
            where = word;
            switch (word) {
                case "soul": {
                    if (first.people.size() == 8) {
                        throw new Fault(5, start);
                    }
                    word("soul");
                    String name = name();
                    if (find(first, name) >= 0) {
                        throw new Fault(3, last);
                    }
                    word("at");
                    int house = number(0, first.houses - 1);
                    if (first.at(house) >= 0) {
                        throw new Fault(2, last);
                    }
                    word("face");
                    int face = number(0, 9);
                    word("kind");
                    first.enter(name, house, face, number(0, 9));
                    break;
                }
                case "thinks": {
                    word("thinks");
                    int a = find(first, name());
                    if (a < 0) {
                        throw new Fault(3, last);
                    }
                    word("of");
                    int b = find(first, name());
                    if (b < 0 || a == b) {
                        throw new Fault(3, last);
                    }
                    first.people.get(a).thinks[b] = number(0, 9);
                    break;
                }
                case "paints":
                    once(plan.paints, start);
                    word(word);
                    plan.paints = sum();
                    break;
                case "minds":
                    once(plan.minds, start);
                    word(word);
                    plan.minds = sum();
                    break;
                case "feud":
                    once(plan.feud, start);
                    word(word);
                    plan.feud = test();
                    break;
                case "slip":
                    word(word);
                    plan.slip = number(0, 100);
                    break;
                default:
                    throw one();
            }
        }

        static void once(Object rule, int start) {
            if (rule != null) {
                throw new Fault(5, start);
            }
        }

        static int find(State s, String name) {
            for (int i = 0; i < s.people.size(); i++) {
                if (s.people.get(i).name.equals(name)) {
                    return i;
                }
            }
            return -1;
        }
    }

    StringBuilder tape = new StringBuilder();
    Plan plan = null;
    State now = new State();
    Deque<State> past = new ArrayDeque<>();
    List<int[]> seen = new ArrayList<>();
    int[] picture = new int[0];
    int[] refused = new int[6];
    int faultKind = 0;
    int faultPlace = -1;
    long seed = 1;

    private String takeTape() {
        String text = tape.toString();
        tape.setLength(0);
        return text;
    }

    private int no(int what) {
        refused[what]++;
        return -1;
    }

    int feed(int... numbers) {
        if (tape.length() + 20 > 1600) {
            return no(0);
        }
        for (int n : numbers) {
            tape.append((char) (n >>> 24)).append((char) (n >>> 16 & 255)).append((char) (n >>> 8 & 255))
                    .append((char) (n & 255));
        }
        return tape.length();
    }

    boolean end(int n) {
        if (n < 0 || n > tape.length()) {
            return no(0) == 0;
        }
        tape.setLength(n);
        return true;
    }

    int terrace() {
        faultKind = 0;
        faultPlace = -1;
        try {
            plan = new Parser(takeTape()).terrace();
        } catch (Fault fault) {
            faultKind = fault.kind;
            faultPlace = fault.place;
            return no(1);
        }
        now = plan.first.copy();
        past.clear();
        seen.clear();
        return plan.statements;
    }

    int fault(int what) {
        return what == 0 ? faultKind : what == 1 ? faultPlace : -1;
    }

    int has(int what) {
        switch (what) {
            case 0: return now.houses;
            case 1: return now.people.size();
            case 2: return now.year;
            case 3: return (int) now.people.stream().filter(p -> p.portrait == 0).count();
            case 4: return (int) now.people.stream().filter(p -> p.spares).count();
            case 5: return feuds().size();
            case 6: return (int) now.total();
            case 7: return told().size();
            case 8: return seen.size();
            case 9: return past.size();
            default: return -1;
        }
    }

    List<int[]> told() {
        return now.kept.subList(Math.max(0, now.kept.size() - 40), now.kept.size());
    }

    List<int[]> feuds() {
        List<int[]> pairs = new ArrayList<>();
        for (int h = 0; h + 1 < now.houses; h++) {
            if (feud(h) == 1) {
                pairs.add(new int[] {now.at(h), now.at(h + 1)});
            }
        }
        return pairs;
    }

    int letter(int person, int k) {
        if (!now.is(person) || k < 0 || k > 5) {
            return -1;
        }
        String name = now.people.get(person).name;
        return k < name.length() ? name.charAt(k) - 96 : 0;
    }

    int house(int house) {
        return house < 0 || house >= now.houses ? -1 : now.at(house);
    }

    int beside(State s, int person, int side) {
        return !s.is(person) ? -1 : s.at(s.people.get(person).house + (side == 0 ? -1 : 1));
    }

    int person(int person, int what) {
        if (!now.is(person)) {
            return -1;
        }
        Person p = now.people.get(person);
        switch (what) {
            case 0: return p.house;
            case 1: return p.portrait;
            case 2: return p.face;
            case 3: return p.kind;
            case 4: return p.spares ? 1 : 0;
            case 5: return beside(now, person, 0);
            case 6: return beside(now, person, 1);
            default: return -1;
        }
    }

    int thinks(int person, int of) {
        return now.two(person, of) ? now.people.get(person).thinks[of] : -1;
    }

    static int within(long n, int most) {
        return (int) (n < 0 ? 0 : n > most ? most : n);
    }

    int painted(State s, int sitter, int painter, int side) {
        Map<String, Long> v = new HashMap<>();
        v.put("face", (long) s.people.get(sitter).face);
        v.put("kind", (long) s.people.get(painter).kind);
        v.put("thinks", (long) s.people.get(painter).thinks[sitter]);
        v.put("look", (long) s.people.get(sitter).portrait);
        v.put("side", (long) side);
        v.put("year", (long) s.year);
        return within(plan.paints.of(v, s), 99);
    }

    int paints(int sitter, int side) {
        if (!now.is(sitter) || side < 0 || side > 1) {
            return -1;
        }
        int painter = beside(now, sitter, side);
        return painter < 0 ? -1 : painted(now, sitter, painter, side);
    }

    int feud(int k) {
        if (house(k) < 0 || house(k + 1) < 0) {
            return -1;
        }
        Person one = now.people.get(now.at(k));
        Person other = now.people.get(now.at(k + 1));
        Map<String, Long> v = new HashMap<>();
        v.put("face", (long) other.face);
        v.put("kind", (long) one.kind);
        v.put("thinks", (long) one.thinks[now.at(k + 1)]);
        v.put("back", (long) other.thinks[now.at(k)]);
        v.put("year", (long) now.year);
        return plan.feud.of(v, now) ? 1 : 0;
    }

    int kept(int k, int what) {
        return k < 0 || k >= told().size() || what < 0 || what > 2 ? -1 : told().get(k)[what];
    }

    void year(State s) {
        for (int h = 0; h < s.houses; h++) {
            int sitter = s.at(h);
            for (int side = 0; side < 2 && sitter >= 0; side++) {
                int painter = beside(s, sitter, side);
                if (painter < 0 || s.people.get(painter).spares) {
                    continue;
                }
                Person p = s.people.get(sitter);
                int before = p.portrait;
                p.portrait = painted(s, sitter, painter, side);
                if (before > 0 && p.portrait == 0) {
                    s.kept.add(new int[] {s.year, sitter, painter});
                }
                Map<String, Long> v = new HashMap<>();
                v.put("face", (long) s.people.get(painter).face);
                v.put("kind", (long) p.kind);
                v.put("thinks", (long) p.thinks[painter]);
                v.put("gain", (long) p.portrait - before);
                v.put("year", (long) s.year);
                p.thinks[painter] = within(plan.minds.of(v, s), 9);
            }
        }
        s.year++;
    }

    State after(State s, int n) {
        State t = s.copy();
        for (int i = 0; i < n; i++) {
            year(t);
        }
        return t;
    }

    boolean can(int n, int least, int most) {
        return n >= least && n <= most && now.year + n <= 999;
    }

    int later(int person, int n) {
        return now.is(person) && can(n, 0, 60) ? after(now, n).people.get(person).portrait : -1;
    }

    int mind(int person, int of, int n) {
        return now.two(person, of) && can(n, 0, 60) ? after(now, n).people.get(person).thinks[of] : -1;
    }

    int curtain(int person) {
        for (int n = 0; now.is(person) && can(n, 0, 60); n++) {
            if (later(person, n) == 0) {
                return n;
            }
        }
        return -1;
    }

    static void swap(State s, int a, int b) {
        int p = s.at(a);
        int q = s.at(b);
        if (p >= 0) {
            s.people.get(p).house = b;
        }
        if (q >= 0) {
            s.people.get(q).house = a;
        }
    }

    int changed(int n, int what) {
        if (plan == null || !can(n, 1, 20) || what < 0 || what > 2) {
            return -1;
        }
        long best = after(now, n).total();
        int[] answer = {-1, -1, -1};
        for (int a = 0; a < now.houses; a++) {
            for (int b = a + 1; b < now.houses; b++) {
                State s = now.copy();
                swap(s, a, b);
                long total = after(s, n).total();
                if (total > best) {
                    best = total;
                    answer = new int[] {a, b, (int) total};
                }
            }
        }
        return answer[what];
    }

    int stranger(int face, int kind, int n, int what) {
        boolean off = face < 0 || face > 9 || kind < 0 || kind > 9 || what < 0 || what > 1;
        if (plan == null || off || !can(n, 1, 20) || now.people.size() > 7) {
            return -1;
        }
        int[] answer = {-1, -1};
        for (int h = 0; h < now.houses; h++) {
            if (now.at(h) < 0) {
                State s = now.copy();
                int number = s.people.size();
                s.enter("", h, face, kind);
                for (Person p : s.people) {
                    p.thinks[number] = 5;
                }
                int portrait = after(s, n).people.get(number).portrait;
                if (portrait > answer[1]) {
                    answer = new int[] {h, portrait};
                }
            }
        }
        return answer[what];
    }

    int parted() {
        TreeMap<Integer, Integer> byCount = new TreeMap<>();
        for (int set = 0; set < 1 << now.people.size(); set++) {
            boolean apart = true;
            for (int[] pair : feuds()) {
                apart &= (set >> pair[0] & 1) == 1 || (set >> pair[1] & 1) == 1;
            }
            if (apart) {
                byCount.putIfAbsent(Integer.bitCount(set), set);
            }
        }
        return byCount.firstEntry().getValue();
    }

    int rest(int n) {
        if (plan == null || !can(n, 1, 20)) {
            return -1;
        }
        int count = now.people.size();
        List<State> ends = new ArrayList<>();
        for (int set = 0; set < 1 << count; set++) {
            State s = now.copy();
            for (int p = 0; p < count; p++) {
                s.people.get(p).spares = (set >> p & 1) == 1;
            }
            ends.add(after(s, n));
        }
        TreeMap<Integer, Integer> byCount = new TreeMap<>();
        for (int set = 0; set < 1 << count; set++) {
            boolean rests = true;
            for (int p = 0; p < count; p++) {
                int as = ends.get(set).people.get(p).portrait;
                int else1 = ends.get(set ^ (1 << p)).people.get(p).portrait;
                rests &= else1 <= as;
            }
            if (rests) {
                byCount.putIfAbsent(Integer.bitCount(set), set);
            }
        }
        return byCount.isEmpty() ? -1 : byCount.firstEntry().getValue();
    }

    int see() {
        String t = takeTape();
        List<int[]> rows = new ArrayList<>();
        boolean good = t.length() >= 3 && t.length() <= 48 && t.length() % 3 == 0;
        for (int i = 0; good && i < t.length(); i += 3) {
            int[] row = {t.charAt(i), t.charAt(i + 1), t.charAt(i + 2)};
            good = row[0] <= 30 && now.is(row[1]) && row[2] <= 99;
            rows.add(row);
        }
        if (!good) {
            return no(1);
        }
        seen = rows;
        return rows.size();
    }

    boolean fits(State s) {
        for (int[] row : seen) {
            if (s.year + row[0] > 999 || after(s, row[0]).people.get(row[1]).portrait != row[2]) {
                return false;
            }
        }
        return true;
    }

    State thinking(int person, int of, int thought) {
        State s = now.copy();
        s.people.get(person).thinks[of] = thought;
        return s;
    }

    int thoughts(int person, int of) {
        if (!now.two(person, of)) {
            return -1;
        }
        int bits = 0;
        for (int t = 0; t < 10; t++) {
            bits += fits(thinking(person, of, t)) ? 1 << t : 0;
        }
        return bits;
    }

    int faces(int person) {
        if (!now.is(person)) {
            return -1;
        }
        int bits = 0;
        for (int f = 0; f < 10; f++) {
            State s = now.copy();
            s.people.get(person).face = f;
            bits += fits(s) ? 1 << f : 0;
        }
        return bits;
    }

    int tells(int person, int of, int what) {
        int bits = thoughts(person, of);
        if (bits <= 0 || what < 0 || what > 1) {
            return -1;
        }
        int[] answer = {-1, 99};
        for (int y = 1; y <= 30 && now.year + y <= 999; y++) {
            Map<Integer, Integer> left = new HashMap<>();
            for (int t = 0; t < 10; t++) {
                if ((bits >> t & 1) == 1) {
                    left.merge(after(thinking(person, of, t), y).people.get(of).portrait, 1, Integer::sum);
                }
            }
            int most = left.values().stream().mapToInt(i -> i).max().getAsInt();
            if (most < answer[1]) {
                answer = new int[] {y, most};
            }
        }
        return answer[0] < 0 ? -1 : answer[what];
    }

    void act() {
        past.addLast(now.copy());
        if (past.size() > 20) {
            past.removeFirst();
        }
    }

    boolean change(int one, int other) {
        boolean there = one >= 0 && other >= 0 && one < now.houses && other < now.houses && one != other;
        if (!there || now.at(one) < 0 && now.at(other) < 0) {
            return no(2) == 0;
        }
        act();
        swap(now, one, other);
        return true;
    }

    boolean right(int person) {
        if (!now.is(person) || now.people.get(person).portrait == 10 * now.people.get(person).face) {
            return no(2) == 0;
        }
        act();
        now.people.get(person).portrait = 10 * now.people.get(person).face;
        return true;
    }

    boolean spare(int person, int on) {
        if (!now.is(person) || on < 0 || on > 1 || now.people.get(person).spares == (on == 1)) {
            return no(2) == 0;
        }
        act();
        now.people.get(person).spares = on == 1;
        return true;
    }

    int years(int n) {
        if (plan == null || !can(n, 1, 100)) {
            return no(3);
        }
        act();
        int before = now.kept.size();
        now = after(now, n);
        return now.kept.size() - before;
    }

    int draw(int m) {
        seed = (1103515245L * seed + 12345) % (1L << 31);
        return (int) (seed / 64 % m);
    }

    int chance(int n) {
        if (plan == null || !can(n, 1, 100)) {
            return no(3);
        }
        act();
        int slips = 0;
        for (int i = 0; i < n; i++) {
            if (draw(100) < plan.slip && !now.people.isEmpty()) {
                Person p = now.people.get(draw(now.people.size()));
                p.portrait = draw(100);
                slips++;
            }
            year(now);
        }
        return slips;
    }

    boolean undo() {
        if (past.isEmpty()) {
            return no(4) == 0;
        }
        now = past.removeLast();
        return true;
    }

    boolean seed(int n) {
        if (n < 0) {
            return no(5) == 0;
        }
        seed = n;
        return true;
    }

    long ask() {
        String text = takeTape();
        if (plan == null) {
            return -1000000000000000L;
        }
        faultKind = 0;
        faultPlace = -1;
        Parser parser = new Parser(text);
        parser.where = "question";
        String verb = parser.peek();
        List<Long> worths = new ArrayList<>();
        try {
            if (!Set.of("first", "last", "often", "total", "most", "least").contains(verb)) {
                throw parser.one();
            }
            parser.word(verb);
            Sum sum;
            if (Set.of("first", "last", "often").contains(verb)) {
                Test test = parser.test();
                sum = (v, s) -> test.of(v, s) ? 1 : 0;
            } else {
                sum = parser.sum();
            }
            if (parser.next() != (char) 999) {
                throw parser.one();
            }
            for (int i = 0; i < now.people.size(); i++) {
                Person p = now.people.get(i);
                Map<String, Long> v = new HashMap<>();
                v.put("number", (long) i);
                v.put("house", (long) p.house);
                v.put("look", (long) p.portrait);
                v.put("face", (long) p.face);
                v.put("kind", (long) p.kind);
                v.put("spares", p.spares ? 1L : 0L);
                v.put("year", (long) now.year);
                worths.add(sum.of(v, now));
            }
        } catch (Fault fault) {
            faultKind = fault.kind;
            faultPlace = fault.place;
            return -1000000000000000L;
        }
        switch (verb) {
            case "first": return worths.indexOf(1L);
            case "last": return worths.lastIndexOf(1L);
            case "most": return worths.stream().mapToLong(w -> w).max().orElse(0);
            case "least": return worths.stream().mapToLong(w -> w).min().orElse(0);
            default: return worths.stream().mapToLong(w -> w).sum();
        }
    }

    static int check(List<Integer> bytes) {
        int c = 149;
        for (int b : bytes) {
            c = (3 * c + b) % 251;
        }
        return c;
    }

    int image() {
        List<Integer> bytes = new ArrayList<>(List.of(now.year >> 8, now.year & 255));
        for (int i = 0; i < now.people.size(); i++) {
            Person p = now.people.get(i);
            bytes.addAll(List.of(p.house, p.portrait, p.spares ? 1 : 0));
            for (int j = 0; j < now.people.size(); j++) {
                if (j != i) {
                    bytes.add(p.thinks[j]);
                }
            }
        }
        bytes.add(check(bytes));
        picture = bytes.stream().mapToInt(b -> b).toArray();
        return picture.length;
    }

    int octet(int k) {
        return k < 0 || k >= picture.length ? -1 : picture[k];
    }

    boolean on() {
        String t = takeTape();
        int count = now.people.size();
        boolean good = plan != null && t.length() == 3 + count * (count + 2);
        State s = now.copy();
        s.kept.clear();
        if (good) {
            List<Integer> bytes = new ArrayList<>();
            t.chars().forEach(bytes::add);
            int told = bytes.remove(bytes.size() - 1);
            good = told == check(bytes);
            s.year = bytes.get(0) * 256 + bytes.get(1);
            good &= s.year <= 999;
            int at = 2;
            for (Person p : s.people) {
                p.house = bytes.get(at++);
                p.portrait = bytes.get(at++);
                int spares = bytes.get(at++);
                p.spares = spares == 1;
                good &= p.house < s.houses && p.portrait <= 99 && spares <= 1;
                for (int j = 0; j < count; j++) {
                    if (s.people.get(j) != p) {
                        p.thinks[j] = bytes.get(at++);
                        good &= p.thinks[j] <= 9;
                    }
                }
            }
            good &= s.people.stream().mapToInt(p -> p.house).distinct().count() == count;
        }
        if (!good) {
            return no(5) == 0;
        }
        now = s;
        past.clear();
        return true;
    }

    int status(int what) {
        return what < 0 || what > 5 ? -1 : refused[what];
    }
}
