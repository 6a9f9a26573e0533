/** A terrace told as a text, whose people's portraits are retouched by their neighbours, year by year. */
public final class Retouched {
    /** There is none; it is refused. */
    public static final int NONE = -1;
    /** Told where a number below 0 may be one. */
    public static final long NOTHING = -1000000000000000L;

    private static final int MOST_BYTES = 1600;
    private static final int FED_BYTES = 20;
    private static final int MOST_STATEMENTS = 80;
    private static final int LEAST_HOUSES = 2;
    private static final int MOST_HOUSES = 9;
    private static final int MOST_PEOPLE = 8;
    private static final int MOST_LETTERS = 6;
    private static final int MOST_DIGITS = 4;
    private static final int MOST_OPEN = 6;
    private static final int MOST_FACE = 9;
    private static final int MOST_KIND = 9;
    private static final int MOST_THOUGHT = 9;
    private static final int UNTOLD_THOUGHT = 5;
    private static final int MOST_LOOK = 99;
    private static final int LOOK_OF_FACE = 10;
    private static final int MOST_SLIP = 100;
    private static final int LAST_YEAR = 999;
    private static final int MOST_YEARS = 100;
    private static final int MOST_AHEAD = 60;
    private static final int MOST_WEIGHED = 20;
    private static final int MOST_SEEN = 30;
    private static final int MOST_ROWS = 16;
    private static final int ROW_BYTES = 3;
    private static final int MOST_KEPT = 40;
    private static final int MOST_ACTS = 20;
    private static final int MOST_NUMBER = 1000000;

    private static final int REFUSED_TAPE = 0;
    private static final int REFUSED_TEXT = 1;
    private static final int REFUSED_ACT = 2;
    private static final int REFUSED_YEARS = 3;
    private static final int REFUSED_UNDO = 4;
    private static final int REFUSED_OTHER = 5;
    private static final int REFUSALS = 6;

    private static final int FAULT_TEXT = 1;
    private static final int FAULT_NUMBER = 2;
    private static final int FAULT_NAME = 3;
    private static final int FAULT_OPEN = 4;
    private static final int FAULT_MANY = 5;

    // A word's number is its place in this row; OWN_WORDS counts those that can be no name.
    private static final String WORDS = "terrace soul at face kind thinks of paints minds feud slip look side gain back year number house spares or and not all min max first last often total most least ";
    private static final int TERRACE = 0;
    private static final int SOUL = 1;
    private static final int AT = 2;
    private static final int FACE = 3;
    private static final int KIND = 4;
    private static final int THINKS = 5;
    private static final int OF = 6;
    private static final int PAINTS = 7;
    private static final int MINDS = 8;
    private static final int FEUD = 9;
    private static final int SLIP = 10;
    private static final int LOOK = 11;
    private static final int SIDE = 12;
    private static final int GAIN = 13;
    private static final int BACK = 14;
    private static final int YEAR = 15;
    private static final int NUMBER = 16;
    private static final int HOUSE = 17;
    private static final int SPARES = 18;
    private static final int OR = 19;
    private static final int AND = 20;
    private static final int NOT = 21;
    private static final int ALL = 22;
    private static final int MIN = 23;
    private static final int MAX = 24;
    private static final int OWN_WORDS = 25;
    private static final int FIRST = 25;
    private static final int LAST = 26;
    private static final int OFTEN = 27;
    private static final int TOTAL = 28;
    private static final int MOST = 29;
    private static final int LEAST = 30;

    private static final int TOKEN_NONE = 0;
    private static final int TOKEN_WORD = 1;
    private static final int TOKEN_NUMBER = 2;
    private static final int TOKEN_SIGN = 3;
    private static final int TOKEN_GLUED = 4;

    private static final int RULE_PAINTS = 0;
    private static final int RULE_MINDS = 1;
    private static final int RULE_FEUD = 2;
    private static final int RULE_QUESTION = 3;
    private static final int RULES = 4;

    // A step below VALUE is a number itself; from VALUE on it is a word's value, from OPERATOR on a deed.
    private static final int VALUE = 10000;
    private static final int OPERATOR = 11000;
    private static final int DO_ADD = 11000;
    private static final int DO_TAKE = 11001;
    private static final int DO_TIMES = 11002;
    private static final int DO_DIVIDE = 11003;
    private static final int DO_LESS = 11004;
    private static final int DO_MORE = 11005;
    private static final int DO_SAME = 11006;
    private static final int DO_MIN = 11007;
    private static final int DO_MAX = 11008;
    private static final int DO_AND = 11009;
    private static final int DO_OR = 11010;
    private static final int DO_NOT = 11011;
    private static final int DO_THINKS = 11012;
    private static final int DO_BACK = 11013;
    // Each step stands for a byte of its own on the tape, but for the seven of the rules that nobody told.
    private static final int MOST_STEPS = 1620;
    // Seven levels leave at most six numbers each waiting.
    private static final int MOST_WAITING = 64;

    private final Tape tape;
    private final Reader reader;
    private final Formulas formulas;
    private final Teller teller;
    private final Question question;
    private final Scene now;
    private final History history;
    private final Ahead ahead;
    private final Picture picture;
    private final int[] refusals;
    private Told told;
    private Told draft;
    private boolean standing;
    private int drawn;

    public Retouched() {
        tape = new Tape();
        reader = new Reader(tape);
        question = new Question();
        formulas = new Formulas(reader, question.code);
        teller = new Teller(reader, formulas);
        now = new Scene();
        history = new History();
        ahead = new Ahead();
        picture = new Picture();
        refusals = new int[REFUSALS];
        told = new Told();
        draft = new Told();
        standing = false;
        drawn = 1;
    }

    public int feed(int a, int b, int c, int d, int e) {
        if (tape.size() + FED_BYTES > MOST_BYTES) {
            return refuse(REFUSED_TAPE);
        }
        tape.addNumber(a);
        tape.addNumber(b);
        tape.addNumber(c);
        tape.addNumber(d);
        tape.addNumber(e);
        return tape.size();
    }

    public boolean end(int n) {
        if (n < 0 || n > tape.size()) {
            refuse(REFUSED_TAPE);
            return false;
        }
        tape.shorten(n);
        return true;
    }

    public int terrace() {
        boolean sound = teller.readTerrace(draft);
        tape.shorten(0);
        if (!sound) {
            return refuse(REFUSED_TEXT);
        }
        Told sooner = told;
        told = draft;
        draft = sooner;
        now.copyFrom(told.first);
        history.forget();
        ahead.forgetSeen();
        standing = true;
        return told.statements;
    }

    public int fault(int what) {
        switch (what) {
            case 0:
                return reader.faultKind;
            case 1:
                return reader.faultPlace;
            default:
                return NONE;
        }
    }

    public int has(int what) {
        switch (what) {
            case 0:
                return now.houses;
            case 1:
                return now.people;
            case 2:
                return now.year;
            case 3:
                return now.countCurtains();
            case 4:
                return now.countSparing();
            case 5:
                return Integer.bitCount(told.feudBits(now));
            case 6:
                return now.allLooks();
            case 7:
                return now.countKept();
            case 8:
                return ahead.countSeen();
            case 9:
                return history.size();
            default:
                return NONE;
        }
    }

    public int letter(int person, int k) {
        return now.isPerson(person) ? told.letterOf(person, k) : NONE;
    }

    public int house(int house) {
        return now.lodgerAt(house);
    }

    public int person(int person, int what) {
        if (!now.isPerson(person)) {
            return NONE;
        }
        switch (what) {
            case 0:
                return now.homeOf(person);
            case 1:
                return now.lookOf(person);
            case 2:
                return now.faceOf(person);
            case 3:
                return now.kindOf(person);
            case 4:
                return now.sparingOf(person);
            case 5:
                return now.neighbourOf(person, 0);
            case 6:
                return now.neighbourOf(person, 1);
            default:
                return NONE;
        }
    }

    public int thinks(int person, int of) {
        return now.arePair(person, of) ? now.thoughtOf(person, of) : NONE;
    }

    public int paints(int sitter, int side) {
        int painter = now.neighbourOf(sitter, side);
        return painter == NONE ? NONE : told.paintedLook(now, sitter, painter, side);
    }

    public int feud(int k) {
        int one = now.lodgerAt(k);
        // Tested first, so that k + 1 can't wrap around.
        if (one == NONE || now.lodgerAt(k + 1) == NONE) {
            return NONE;
        }
        return told.isFeud(now, one, now.lodgerAt(k + 1)) ? 1 : 0;
    }

    public int kept(int k, int what) {
        return now.keptAt(k, what);
    }

    public int later(int person, int n) {
        if (!now.isPerson(person) || !canPass(n, 0, MOST_AHEAD)) {
            return NONE;
        }
        return ahead.sceneAfter(told, now, n).lookOf(person);
    }

    public int mind(int person, int of, int n) {
        if (!now.arePair(person, of) || !canPass(n, 0, MOST_AHEAD)) {
            return NONE;
        }
        return ahead.sceneAfter(told, now, n).thoughtOf(person, of);
    }

    public int curtain(int person) {
        return now.isPerson(person) ? ahead.firstCurtain(told, now, person) : NONE;
    }

    public int changed(int n, int what) {
        if (!standing || !canPass(n, 1, MOST_WEIGHED) || what < 0 || what > 2) {
            return NONE;
        }
        if (!ahead.findChange(told, now, n)) {
            return NONE;
        }
        if (what == 2) {
            return ahead.bestLook;
        }
        return what == 0 ? ahead.bestHouse : ahead.bestOther;
    }

    public int stranger(int face, int kind, int n, int what) {
        if (!standing || !canPass(n, 1, MOST_WEIGHED) || what < 0 || what > 1) {
            return NONE;
        }
        if (face < 0 || face > MOST_FACE || kind < 0 || kind > MOST_KIND) {
            return NONE;
        }
        if (!ahead.findHome(told, now, face, kind, n)) {
            return NONE;
        }
        return what == 0 ? ahead.bestHouse : ahead.bestLook;
    }

    public int parted() {
        return ahead.fewestToPart(told, now);
    }

    public int rest(int n) {
        if (!standing || !canPass(n, 1, MOST_WEIGHED)) {
            return NONE;
        }
        ahead.forgetOutcomes();
        int sets = 1 << now.people;
        for (int count = 0; count <= now.people; count++) {
            for (int set = 0; set < sets; set++) {
                if (Integer.bitCount(set) == count && ahead.isAtRest(told, now, n, set)) {
                    return set;
                }
            }
        }
        return NONE;
    }

    public int see() {
        boolean taken = ahead.readSeen(tape, now);
        tape.shorten(0);
        return taken ? ahead.countSeen() : refuse(REFUSED_TEXT);
    }

    public int thoughts(int person, int of) {
        return now.arePair(person, of) ? ahead.possibleThoughts(told, now, person, of) : NONE;
    }

    public int faces(int person) {
        return now.isPerson(person) ? ahead.possibleFaces(told, now, person) : NONE;
    }

    public int tells(int person, int of, int what) {
        if (!now.arePair(person, of) || what < 0 || what > 1) {
            return NONE;
        }
        int possible = ahead.possibleThoughts(told, now, person, of);
        if (!ahead.findTelling(told, now, person, of, possible)) {
            return NONE;
        }
        return what == 0 ? ahead.bestYear : ahead.bestLeft;
    }

    public boolean change(int one, int other) {
        boolean lived = now.lodgerAt(one) != NONE || now.lodgerAt(other) != NONE;
        if (one == other || !now.isHouse(one) || !now.isHouse(other) || !lived) {
            refuse(REFUSED_ACT);
            return false;
        }
        history.remember(now);
        now.swapHouses(one, other);
        return true;
    }

    public boolean right(int person) {
        int due = now.faceOf(person) * LOOK_OF_FACE;
        if (!now.isPerson(person) || now.lookOf(person) == due) {
            refuse(REFUSED_ACT);
            return false;
        }
        history.remember(now);
        now.setLook(person, due);
        return true;
    }

    public boolean spare(int person, int on) {
        if (!now.isPerson(person) || on < 0 || on > 1 || now.sparingOf(person) == on) {
            refuse(REFUSED_ACT);
            return false;
        }
        history.remember(now);
        now.setSparing(person, on);
        return true;
    }

    public int years(int n) {
        if (!standing || !canPass(n, 1, MOST_YEARS)) {
            return refuse(REFUSED_YEARS);
        }
        history.remember(now);
        int before = now.came;
        told.pass(now, n);
        return now.came - before;
    }

    public int chance(int n) {
        if (!standing || !canPass(n, 1, MOST_YEARS)) {
            return refuse(REFUSED_YEARS);
        }
        history.remember(now);
        int slips = 0;
        for (int i = 0; i < n; i++) {
            slips += slipOnce();
            told.pass(now, 1);
        }
        return slips;
    }

    public boolean undo() {
        if (!history.restore(now)) {
            refuse(REFUSED_UNDO);
            return false;
        }
        return true;
    }

    public boolean seed(int seed) {
        if (seed < 0) {
            refuse(REFUSED_OTHER);
            return false;
        }
        drawn = seed;
        return true;
    }

    public long ask() {
        // Without a terrace the latest fault must stay, so the tape is not even read.
        boolean sound = standing && question.read(reader, formulas);
        tape.shorten(0);
        return sound ? question.answer(now) : NOTHING;
    }

    public int image() {
        return picture.write(now);
    }

    public int octet(int k) {
        return picture.byteAt(k);
    }

    public boolean on() {
        boolean taken = standing && picture.read(tape, now);
        tape.shorten(0);
        if (!taken) {
            refuse(REFUSED_OTHER);
            return false;
        }
        history.forget();
        return true;
    }

    public int status(int what) {
        return what >= 0 && what < refusals.length ? refusals[what] : NONE;
    }

    private int refuse(int what) {
        if (what >= 0 && what < refusals.length) {
            refusals[what]++;
        }
        return NONE;
    }

    private boolean canPass(int n, int least, int most) {
        return n >= least && n <= most && now.year + n <= LAST_YEAR;
    }

    private int slipOnce() {
        if (draw(100) >= told.slip || now.people == 0) {
            return 0;
        }
        int person = draw(now.people);
        now.setLook(person, draw(100));
        return 1;
    }

    private int draw(int m) {
        // Java's wrap-around at 2 to the 32 leaves the lower 31 bits as the document has them.
        drawn = (1103515245 * drawn + 12345) & 0x7fffffff;
        return m > 0 ? drawn / 64 % m : 0;
    }

    private static int within(int number, int most) {
        return Math.max(0, Math.min(most, number));
    }

    /** The bytes that were fed and not yet used. */
    private static final class Tape {
        private final int[] bytes = new int[MOST_BYTES];
        private int length = 0;

        int size() {
            return length;
        }

        int byteAt(int place) {
            return place >= 0 && place < length && place < bytes.length ? bytes[place] : NONE;
        }

        void addNumber(int number) {
            for (int shift = 24; shift >= 0; shift -= 8) {
                if (length < bytes.length) {
                    bytes[length] = number >> shift & 255;
                    length++;
                }
            }
        }

        void shorten(int n) {
            length = Math.max(0, Math.min(length, n));
        }
    }

    /** Reads the tape token by token, and keeps the first fault of the latest text. */
    private static final class Reader {
        private final Tape tape;
        private int token = TOKEN_NONE;
        private int start = 0;
        private int stop = 0;
        // Of a word its number, NONE for one that is unknown; of a sign its byte.
        private int value = 0;
        private int faultKind = 0;
        private int faultPlace = NONE;

        Reader(Tape tape) {
            this.tape = tape;
        }

        void begin() {
            faultKind = 0;
            faultPlace = NONE;
            token = TOKEN_NONE;
            stop = 0;
            advance();
        }

        void advance() {
            boolean mayGlue = token == TOKEN_WORD || token == TOKEN_NUMBER;
            int before = stop;
            start = afterBlanks(before);
            int sign = tape.byteAt(start);
            if (sign == NONE) {
                token = TOKEN_NONE;
                stop = start;
            } else if (isLetter(sign)) {
                token = TOKEN_WORD;
                stop = afterLetters(start);
                value = wordFrom(start, stop);
            } else if (isDigit(sign)) {
                token = TOKEN_NUMBER;
                stop = afterDigits(start);
                value = numberFrom(start, stop);
            } else {
                token = TOKEN_SIGN;
                stop = start + 1;
                value = sign;
            }
            boolean isGlued = mayGlue && start == before && (token == TOKEN_WORD || token == TOKEN_NUMBER);
            token = isGlued ? TOKEN_GLUED : token;
        }

        boolean isAtEnd() {
            return token == TOKEN_NONE;
        }

        boolean isAnyWord() {
            return token == TOKEN_WORD;
        }

        boolean isAnyNumber() {
            return token == TOKEN_NUMBER;
        }

        boolean isWord(int word) {
            return token == TOKEN_WORD && value == word;
        }

        boolean isSign(char sign) {
            return token == TOKEN_SIGN && value == sign;
        }

        boolean takeWord(int word) {
            if (!isWord(word)) {
                return unexpected();
            }
            advance();
            return true;
        }

        boolean takeSign(char sign) {
            if (!isSign(sign)) {
                return unexpected();
            }
            advance();
            return true;
        }

        boolean isNumberHere(int least, int most) {
            if (token != TOKEN_NUMBER) {
                return unexpected();
            }
            if (stop - start > MOST_DIGITS) {
                return failAt(FAULT_TEXT, start + MOST_DIGITS);
            }
            return value >= least && value <= most || fail(FAULT_NUMBER);
        }

        boolean isNameHere() {
            if (token != TOKEN_WORD || value >= 0 && value < OWN_WORDS) {
                return unexpected();
            }
            return stop - start <= MOST_LETTERS || failAt(FAULT_TEXT, start + MOST_LETTERS);
        }

        int takeValue() {
            int taken = value;
            advance();
            return taken;
        }

        /** Letter k of the word that stands here, 1 to 26; 0 behind it. */
        int letterAt(int k) {
            return k >= 0 && k < stop - start ? tape.byteAt(start + k) - 'a' + 1 : 0;
        }

        boolean mayOpen(int open) {
            return open < MOST_OPEN || fail(FAULT_OPEN);
        }

        boolean unexpected() {
            return failAt(FAULT_TEXT, start);
        }

        boolean fail(int kind) {
            return failAt(kind, start);
        }

        private boolean failAt(int kind, int place) {
            faultKind = kind;
            faultPlace = place;
            return false;
        }

        private int afterBlanks(int from) {
            int place = from;
            while (place < tape.size() && isBlank(tape.byteAt(place))) {
                place++;
            }
            return place;
        }

        private int afterLetters(int from) {
            int place = from;
            while (place < tape.size() && isLetter(tape.byteAt(place))) {
                place++;
            }
            return place;
        }

        private int afterDigits(int from) {
            int place = from;
            while (place < tape.size() && isDigit(tape.byteAt(place))) {
                place++;
            }
            return place;
        }

        private int wordFrom(int from, int to) {
            int word = 0;
            int place = from;
            boolean isLike = true;
            for (int i = 0; i < WORDS.length(); i++) {
                char sign = WORDS.charAt(i);
                if (sign != ' ') {
                    isLike = isLike && place < to && tape.byteAt(place) == sign;
                    place++;
                } else if (isLike && place == to) {
                    return word;
                } else {
                    word++;
                    place = from;
                    isLike = true;
                }
            }
            return NONE;
        }

        private int numberFrom(int from, int to) {
            // More digits are refused where a number is asked; here they must only not overflow.
            int last = Math.min(to, from + MOST_DIGITS);
            int number = 0;
            for (int place = from; place < last; place++) {
                number = 10 * number + tape.byteAt(place) - '0';
            }
            return number;
        }

        private static boolean isBlank(int sign) {
            return sign == 10 || sign == 32;
        }

        private static boolean isLetter(int sign) {
            return sign >= 'a' && sign <= 'z';
        }

        private static boolean isDigit(int sign) {
            return sign >= '0' && sign <= '9';
        }
    }

    /** Rules as steps behind one another, each step after what it works on. */
    private static final class Code {
        private final int[] steps = new int[MOST_STEPS];
        private final int[] starts = new int[RULES];
        private final int[] stops = new int[RULES];
        private final int[] values = new int[OWN_WORDS];
        private final int[] waiting = new int[MOST_WAITING];
        private int length = 0;
        private int height = 0;

        void clear() {
            length = 0;
            for (int rule = 0; rule < RULES; rule++) {
                starts[rule] = NONE;
                stops[rule] = NONE;
            }
        }

        boolean isTold(int rule) {
            return rule >= 0 && rule < RULES && starts[rule] != NONE;
        }

        void openRule(int rule) {
            if (rule >= 0 && rule < RULES) {
                starts[rule] = length;
                stops[rule] = length;
            }
        }

        void closeRule(int rule) {
            if (rule >= 0 && rule < RULES) {
                stops[rule] = length;
            }
        }

        void add(int step) {
            if (length < steps.length) {
                steps[length] = step;
                length++;
            }
        }

        void setValue(int word, int value) {
            if (word >= 0 && word < values.length) {
                values[word] = value;
            }
        }

        /** What a rule answers by the values set; a test answers 1 or 0. */
        int work(int rule, Scene scene) {
            if (!isTold(rule)) {
                return 0;
            }
            height = 0;
            int last = Math.min(stops[rule], length);
            for (int i = Math.max(0, starts[rule]); i < last; i++) {
                int step = steps[i];
                if (step < VALUE) {
                    push(step);
                } else if (step < OPERATOR) {
                    push(valueOf(step - VALUE));
                } else if (step >= DO_NOT) {
                    push(turned(step, pop(), scene));
                } else {
                    int right = pop();
                    push(joined(step, pop(), right));
                }
            }
            return pop();
        }

        private int valueOf(int word) {
            return word >= 0 && word < values.length ? values[word] : 0;
        }

        private void push(int number) {
            if (height < waiting.length) {
                waiting[height] = number;
                height++;
            }
        }

        private int pop() {
            if (height <= 0) {
                return 0;
            }
            height--;
            return waiting[height];
        }

        private int turned(int step, int number, Scene scene) {
            switch (step) {
                case DO_NOT:
                    return 1 - number;
                case DO_THINKS:
                    return scene.thoughtOf(values[NUMBER], number);
                case DO_BACK:
                    return scene.thoughtOf(number, values[NUMBER]);
                default:
                    return 0;
            }
        }

        private static int joined(int step, int left, int right) {
            switch (step) {
                case DO_ADD:
                    return held((long) left + right);
                case DO_TAKE:
                    return held((long) left - right);
                case DO_TIMES:
                    return held((long) left * right);
                case DO_DIVIDE:
                    return right == 0 ? 0 : Math.floorDiv(left, right);
                case DO_LESS:
                    return left < right ? 1 : 0;
                case DO_MORE:
                    return left > right ? 1 : 0;
                case DO_SAME:
                    return left == right ? 1 : 0;
                case DO_MIN:
                case DO_AND:
                    return Math.min(left, right);
                case DO_MAX:
                case DO_OR:
                    return Math.max(left, right);
                default:
                    return 0;
            }
        }

        private static int held(long number) {
            if (number > MOST_NUMBER) {
                return MOST_NUMBER;
            }
            return number < -MOST_NUMBER ? -MOST_NUMBER : (int) number;
        }
    }

    /** Reads a TEST or a SUM into code; open counts the brackets and such that stand open. */
    private static final class Formulas {
        private final Reader reader;
        private Code code;
        private int rule = RULE_PAINTS;

        Formulas(Reader reader, Code code) {
            this.reader = reader;
            this.code = code;
        }

        /** Reads the rule behind the word that the reader stands at. */
        boolean readRule(Code into, int whichRule, boolean isTest) {
            if (into.isTold(whichRule)) {
                return reader.fail(FAULT_MANY);
            }
            reader.advance();
            code = into;
            rule = whichRule;
            code.openRule(rule);
            boolean sound = isTest ? readTest(0) : readSum(0);
            code.closeRule(rule);
            return sound;
        }

        private boolean readTest(int open) {
            if (!readFact(open)) {
                return false;
            }
            // What is left of an 'or' waits until all that 'and' binds behind it is done.
            boolean orWaits = false;
            for (int count = 0; count < MOST_BYTES && (reader.isWord(AND) || reader.isWord(OR)); count++) {
                boolean isAnd = reader.isWord(AND);
                if (!isAnd && orWaits) {
                    code.add(DO_OR);
                }
                reader.advance();
                if (!readFact(open)) {
                    return false;
                }
                if (isAnd) {
                    code.add(DO_AND);
                } else {
                    orWaits = true;
                }
            }
            if (orWaits) {
                code.add(DO_OR);
            }
            return true;
        }

        private boolean readFact(int open) {
            if (reader.isWord(NOT)) {
                return readNot(open);
            }
            if (reader.isSign('[')) {
                return readInnerTest(open);
            }
            if (reader.isWord(ALL)) {
                code.add(1);
                reader.advance();
                return true;
            }
            if (!readSum(open)) {
                return false;
            }
            int deed = comparisonHere();
            if (deed == NONE) {
                return reader.unexpected();
            }
            reader.advance();
            boolean sound = readSum(open);
            code.add(deed);
            return sound;
        }

        private boolean readNot(int open) {
            if (!reader.mayOpen(open)) {
                return false;
            }
            reader.advance();
            boolean sound = readFact(open + 1);
            code.add(DO_NOT);
            return sound;
        }

        private boolean readInnerTest(int open) {
            if (!reader.mayOpen(open)) {
                return false;
            }
            reader.advance();
            return readTest(open + 1) && reader.takeSign(']');
        }

        private int comparisonHere() {
            if (reader.isSign('<')) {
                return DO_LESS;
            }
            if (reader.isSign('>')) {
                return DO_MORE;
            }
            return reader.isSign('=') ? DO_SAME : NONE;
        }

        private boolean readSum(int open) {
            if (!readPart(open)) {
                return false;
            }
            // A sum or difference waits until all products behind it are done.
            int waits = NONE;
            for (int count = 0; count < MOST_BYTES && deedHere() != NONE; count++) {
                int deed = deedHere();
                boolean isProduct = deed == DO_TIMES || deed == DO_DIVIDE;
                if (!isProduct && waits != NONE) {
                    code.add(waits);
                }
                reader.advance();
                if (!readPart(open)) {
                    return false;
                }
                if (isProduct) {
                    code.add(deed);
                } else {
                    waits = deed;
                }
            }
            if (waits != NONE) {
                code.add(waits);
            }
            return true;
        }

        private int deedHere() {
            if (reader.isSign('+')) {
                return DO_ADD;
            }
            if (reader.isSign('-')) {
                return DO_TAKE;
            }
            if (reader.isSign('*')) {
                return DO_TIMES;
            }
            return reader.isSign('/') ? DO_DIVIDE : NONE;
        }

        private boolean readPart(int open) {
            if (reader.isAnyNumber()) {
                return readNumber();
            }
            if (reader.isSign('(')) {
                return readInnerSum(open);
            }
            if (!reader.isAnyWord()) {
                return reader.unexpected();
            }
            int word = reader.value;
            if (isValueHere(word)) {
                code.add(VALUE + word);
                reader.advance();
                return true;
            }
            if (word == MIN || word == MAX) {
                return readPair(open, word == MIN ? DO_MIN : DO_MAX);
            }
            if (rule == RULE_QUESTION && (word == THINKS || word == BACK)) {
                return readOfPerson(open, word == THINKS ? DO_THINKS : DO_BACK);
            }
            return reader.unexpected();
        }

        private boolean readNumber() {
            if (!reader.isNumberHere(0, VALUE - 1)) {
                return false;
            }
            code.add(reader.value);
            reader.advance();
            return true;
        }

        private boolean readInnerSum(int open) {
            if (!reader.mayOpen(open)) {
                return false;
            }
            reader.advance();
            return readSum(open + 1) && reader.takeSign(')');
        }

        private boolean readPair(int open, int deed) {
            reader.advance();
            if (!reader.isSign('(')) {
                return reader.unexpected();
            }
            if (!reader.mayOpen(open)) {
                return false;
            }
            reader.advance();
            if (!readSum(open + 1) || !reader.takeSign(',') || !readSum(open + 1)) {
                return false;
            }
            code.add(deed);
            return reader.takeSign(')');
        }

        private boolean readOfPerson(int open, int deed) {
            if (!reader.mayOpen(open)) {
                return false;
            }
            reader.advance();
            boolean sound = readPart(open + 1);
            code.add(deed);
            return sound;
        }

        private boolean isValueHere(int word) {
            switch (word) {
                case FACE:
                case KIND:
                case YEAR:
                    return true;
                case THINKS:
                    return rule != RULE_QUESTION;
                case LOOK:
                    return rule == RULE_PAINTS || rule == RULE_QUESTION;
                case SIDE:
                    return rule == RULE_PAINTS;
                case GAIN:
                    return rule == RULE_MINDS;
                case BACK:
                    return rule == RULE_FEUD;
                case NUMBER:
                case HOUSE:
                case SPARES:
                    return rule == RULE_QUESTION;
                default:
                    return false;
            }
        }
    }

    /** Reads the statements of a terrace into a draft. */
    private static final class Teller {
        private final Reader reader;
        private final Formulas formulas;

        Teller(Reader reader, Formulas formulas) {
            this.reader = reader;
            this.formulas = formulas;
        }

        boolean readTerrace(Told draft) {
            draft.clear();
            reader.begin();
            if (!readHouses(draft) || !reader.takeSign(';')) {
                return false;
            }
            int count = 1;
            while (count < MOST_STATEMENTS && !reader.isAtEnd()) {
                if (!readStatement(draft) || !reader.takeSign(';')) {
                    return false;
                }
                count++;
            }
            if (!reader.isAtEnd()) {
                return reader.fail(FAULT_MANY);
            }
            draft.statements = count;
            draft.addUntoldRules();
            return true;
        }

        private boolean readHouses(Told draft) {
            if (!reader.takeWord(TERRACE) || !reader.isNumberHere(LEAST_HOUSES, MOST_HOUSES)) {
                return false;
            }
            draft.first.houses = reader.takeValue();
            return true;
        }

        private boolean readStatement(Told draft) {
            if (!reader.isAnyWord()) {
                return reader.unexpected();
            }
            switch (reader.value) {
                case SOUL:
                    return readSoul(draft);
                case THINKS:
                    return readThought(draft);
                case PAINTS:
                    return formulas.readRule(draft.code, RULE_PAINTS, false);
                case MINDS:
                    return formulas.readRule(draft.code, RULE_MINDS, false);
                case FEUD:
                    return formulas.readRule(draft.code, RULE_FEUD, true);
                case SLIP:
                    return readSlip(draft);
                default:
                    return reader.unexpected();
            }
        }

        private boolean readSoul(Told draft) {
            if (draft.first.people >= MOST_PEOPLE) {
                return reader.fail(FAULT_MANY);
            }
            reader.advance();
            if (!reader.isNameHere()) {
                return false;
            }
            if (draft.personNamed(reader) != NONE) {
                return reader.fail(FAULT_NAME);
            }
            draft.nameNext(reader);
            reader.advance();
            if (!reader.takeWord(AT) || !reader.isNumberHere(0, draft.first.houses - 1)) {
                return false;
            }
            if (draft.first.lodgerAt(reader.value) != NONE) {
                return reader.fail(FAULT_NUMBER);
            }
            int house = reader.takeValue();
            if (!reader.takeWord(FACE) || !reader.isNumberHere(0, MOST_FACE)) {
                return false;
            }
            int face = reader.takeValue();
            if (!reader.takeWord(KIND) || !reader.isNumberHere(0, MOST_KIND)) {
                return false;
            }
            draft.first.moveIn(house, face, reader.takeValue());
            return true;
        }

        private boolean readThought(Told draft) {
            reader.advance();
            int person = takePerson(draft);
            if (person == NONE || !reader.takeWord(OF) || !reader.isNameHere()) {
                return false;
            }
            if (draft.personNamed(reader) == person) {
                return reader.fail(FAULT_NAME);
            }
            int of = takePerson(draft);
            if (of == NONE || !reader.isNumberHere(0, MOST_THOUGHT)) {
                return false;
            }
            draft.first.setThought(person, of, reader.takeValue());
            return true;
        }

        private int takePerson(Told draft) {
            if (!reader.isNameHere()) {
                return NONE;
            }
            int person = draft.personNamed(reader);
            if (person == NONE) {
                reader.fail(FAULT_NAME);
                return NONE;
            }
            reader.advance();
            return person;
        }

        private boolean readSlip(Told draft) {
            reader.advance();
            if (!reader.isNumberHere(0, MOST_SLIP)) {
                return false;
            }
            draft.slip = reader.takeValue();
            return true;
        }
    }

    /** A terrace as its text tells it, and what its rules make of a scene. */
    private static final class Told {
        private final Scene first = new Scene();
        private final Code code = new Code();
        private final int[] letters = new int[MOST_PEOPLE * MOST_LETTERS];
        private int slip = 0;
        private int statements = 0;

        Told() {
            code.clear();
        }

        void clear() {
            first.clear();
            code.clear();
            slip = 0;
            statements = 0;
        }

        /** The name that the reader stands at becomes that of the next person to move in. */
        void nameNext(Reader reader) {
            int row = first.people * MOST_LETTERS;
            for (int k = 0; k < MOST_LETTERS; k++) {
                if (row + k < letters.length) {
                    letters[row + k] = reader.letterAt(k);
                }
            }
        }

        int personNamed(Reader reader) {
            for (int person = 0; person < first.people; person++) {
                boolean isLike = true;
                for (int k = 0; k < MOST_LETTERS; k++) {
                    isLike = isLike && letterOf(person, k) == reader.letterAt(k);
                }
                if (isLike) {
                    return person;
                }
            }
            return NONE;
        }

        int letterOf(int person, int k) {
            boolean isThere = first.isPerson(person) && k >= 0 && k < MOST_LETTERS;
            return isThere ? letters[person * MOST_LETTERS + k] : NONE;
        }

        void addUntoldRules() {
            if (!code.isTold(RULE_PAINTS)) {
                code.openRule(RULE_PAINTS);
                code.add(VALUE + LOOK);
                code.closeRule(RULE_PAINTS);
            }
            if (!code.isTold(RULE_MINDS)) {
                code.openRule(RULE_MINDS);
                code.add(VALUE + THINKS);
                code.closeRule(RULE_MINDS);
            }
            if (!code.isTold(RULE_FEUD)) {
                code.openRule(RULE_FEUD);
                code.add(VALUE + THINKS);
                code.add(VALUE + BACK);
                code.add(DO_ADD);
                code.add(6);
                code.add(DO_LESS);
                code.closeRule(RULE_FEUD);
            }
        }

        void pass(Scene scene, int years) {
            for (int i = 0; i < years && scene.year < LAST_YEAR; i++) {
                for (int house = 0; house < scene.houses; house++) {
                    int sitter = scene.lodgerAt(house);
                    stroke(scene, sitter, 0);
                    stroke(scene, sitter, 1);
                }
                scene.year++;
            }
        }

        private void stroke(Scene scene, int sitter, int side) {
            int painter = scene.neighbourOf(sitter, side);
            if (painter == NONE || scene.sparingOf(painter) == 1) {
                return;
            }
            int before = scene.lookOf(sitter);
            setForPaints(scene, sitter, painter, side);
            int after = within(code.work(RULE_PAINTS, scene), MOST_LOOK);
            scene.setLook(sitter, after);
            if (after == 0 && before != 0) {
                scene.keep(sitter, painter);
            }
            setForMinds(scene, sitter, painter, after - before);
            scene.setThought(sitter, painter, within(code.work(RULE_MINDS, scene), MOST_THOUGHT));
        }

        int paintedLook(Scene scene, int sitter, int painter, int side) {
            setForPaints(scene, sitter, painter, side);
            return within(code.work(RULE_PAINTS, scene), MOST_LOOK);
        }

        private void setForPaints(Scene scene, int sitter, int painter, int side) {
            code.setValue(FACE, scene.faceOf(sitter));
            code.setValue(KIND, scene.kindOf(painter));
            code.setValue(THINKS, scene.thoughtOf(painter, sitter));
            code.setValue(YEAR, scene.year);
            code.setValue(LOOK, scene.lookOf(sitter));
            code.setValue(SIDE, side);
        }

        private void setForMinds(Scene scene, int sitter, int painter, int gain) {
            code.setValue(FACE, scene.faceOf(painter));
            code.setValue(KIND, scene.kindOf(sitter));
            code.setValue(THINKS, scene.thoughtOf(sitter, painter));
            code.setValue(YEAR, scene.year);
            code.setValue(GAIN, gain);
        }

        boolean isFeud(Scene scene, int one, int other) {
            code.setValue(FACE, scene.faceOf(other));
            code.setValue(KIND, scene.kindOf(one));
            code.setValue(THINKS, scene.thoughtOf(one, other));
            code.setValue(YEAR, scene.year);
            code.setValue(BACK, scene.thoughtOf(other, one));
            return code.work(RULE_FEUD, scene) == 1;
        }

        /** Bit k tells of a feud between the houses k and k + 1. */
        int feudBits(Scene scene) {
            int bits = 0;
            for (int house = 0; house < scene.houses; house++) {
                int one = scene.lodgerAt(house);
                int other = scene.neighbourOf(one, 1);
                if (other != NONE && isFeud(scene, one, other)) {
                    bits |= 1 << house;
                }
            }
            return bits;
        }
    }

    /** All that years and acts can change, and the people's truths with it, so that these can be tried too. */
    private static final class Scene {
        private final int[] truths = new int[MOST_PEOPLE];
        private final int[] kinds = new int[MOST_PEOPLE];
        private final int[] homes = new int[MOST_PEOPLE];
        private final int[] looks = new int[MOST_PEOPLE];
        private final int[] sparing = new int[MOST_PEOPLE];
        private final int[] minded = new int[MOST_PEOPLE * MOST_PEOPLE];
        private final int[] lodgers = new int[MOST_HOUSES];
        // A ring: the curtain that came as number i stands at i mod MOST_KEPT.
        private final int[] ring = new int[MOST_KEPT];
        private int came = 0;
        private int houses = 0;
        private int people = 0;
        private int year = 0;

        void clear() {
            came = 0;
            houses = 0;
            people = 0;
            year = 0;
            for (int house = 0; house < MOST_HOUSES; house++) {
                lodgers[house] = NONE;
            }
        }

        void copyFrom(Scene other) {
            System.arraycopy(other.truths, 0, truths, 0, MOST_PEOPLE);
            System.arraycopy(other.kinds, 0, kinds, 0, MOST_PEOPLE);
            System.arraycopy(other.homes, 0, homes, 0, MOST_PEOPLE);
            System.arraycopy(other.looks, 0, looks, 0, MOST_PEOPLE);
            System.arraycopy(other.sparing, 0, sparing, 0, MOST_PEOPLE);
            System.arraycopy(other.minded, 0, minded, 0, MOST_PEOPLE * MOST_PEOPLE);
            System.arraycopy(other.lodgers, 0, lodgers, 0, MOST_HOUSES);
            System.arraycopy(other.ring, 0, ring, 0, MOST_KEPT);
            came = other.came;
            houses = other.houses;
            people = other.people;
            year = other.year;
        }

        boolean isHouse(int house) {
            return house >= 0 && house < houses && house < MOST_HOUSES;
        }

        boolean isPerson(int person) {
            return person >= 0 && person < people && person < MOST_PEOPLE;
        }

        boolean arePair(int person, int of) {
            return isPerson(person) && isPerson(of) && person != of;
        }

        int lodgerAt(int house) {
            return isHouse(house) ? lodgers[house] : NONE;
        }

        int homeOf(int person) {
            return isPerson(person) ? homes[person] : NONE;
        }

        int lookOf(int person) {
            return isPerson(person) ? looks[person] : 0;
        }

        int faceOf(int person) {
            return isPerson(person) ? truths[person] : 0;
        }

        int kindOf(int person) {
            return isPerson(person) ? kinds[person] : 0;
        }

        int sparingOf(int person) {
            return isPerson(person) ? sparing[person] : 0;
        }

        /** 0 of himself, and of or by those that there are not, as questions have it. */
        int thoughtOf(int person, int of) {
            boolean areThere = person >= 0 && person < people && of >= 0 && of < people && people <= MOST_PEOPLE;
            return areThere && person != of ? minded[person * MOST_PEOPLE + of] : 0;
        }

        int neighbourOf(int person, int side) {
            if (!isPerson(person) || side < 0 || side > 1) {
                return NONE;
            }
            return lodgerAt(homes[person] + (side == 0 ? -1 : 1));
        }

        void setLook(int person, int look) {
            if (isPerson(person)) {
                looks[person] = look;
            }
        }

        void setFace(int person, int face) {
            if (isPerson(person)) {
                truths[person] = face;
            }
        }

        void setSparing(int person, int on) {
            if (isPerson(person)) {
                sparing[person] = on;
            }
        }

        void setThought(int person, int of, int thought) {
            if (arePair(person, of)) {
                minded[person * MOST_PEOPLE + of] = thought;
            }
        }

        void place(int person, int house) {
            if (isHouse(house)) {
                lodgers[house] = person;
            }
            if (isPerson(person)) {
                homes[person] = house;
            }
        }

        void swapHouses(int one, int other) {
            int person = lodgerAt(one);
            place(lodgerAt(other), one);
            place(person, other);
        }

        void moveIn(int house, int face, int kind) {
            if (people >= MOST_PEOPLE) {
                return;
            }
            int person = people;
            people++;
            truths[person] = face;
            kinds[person] = kind;
            looks[person] = face * LOOK_OF_FACE;
            sparing[person] = 0;
            place(person, house);
            for (int other = 0; other < person; other++) {
                setThought(person, other, UNTOLD_THOUGHT);
                setThought(other, person, UNTOLD_THOUGHT);
            }
        }

        void keep(int sitter, int painter) {
            ring[Math.floorMod(came, MOST_KEPT)] = (year * MOST_PEOPLE + sitter) * MOST_PEOPLE + painter;
            came++;
        }

        int countKept() {
            return Math.min(came, MOST_KEPT);
        }

        int keptAt(int k, int what) {
            if (k < 0 || k >= countKept()) {
                return NONE;
            }
            int row = ring[Math.floorMod(came - countKept() + k, MOST_KEPT)];
            switch (what) {
                case 0:
                    return row / MOST_PEOPLE / MOST_PEOPLE;
                case 1:
                    return row / MOST_PEOPLE % MOST_PEOPLE;
                case 2:
                    return row % MOST_PEOPLE;
                default:
                    return NONE;
            }
        }

        int countCurtains() {
            int count = 0;
            for (int person = 0; person < people; person++) {
                count += lookOf(person) == 0 ? 1 : 0;
            }
            return count;
        }

        int countSparing() {
            int count = 0;
            for (int person = 0; person < people; person++) {
                count += sparingOf(person);
            }
            return count;
        }

        int allLooks() {
            int sum = 0;
            for (int person = 0; person < people; person++) {
                sum += lookOf(person);
            }
            return sum;
        }
    }

    /** The scenes ahead of the last acts. */
    private static final class History {
        private final Scene[] past = new Scene[MOST_ACTS];
        private int next = 0;
        private int count = 0;

        History() {
            for (int i = 0; i < MOST_ACTS; i++) {
                past[i] = new Scene();
            }
        }

        int size() {
            return count;
        }

        void forget() {
            count = 0;
        }

        void remember(Scene scene) {
            past[Math.floorMod(next, MOST_ACTS)].copyFrom(scene);
            next = Math.floorMod(next + 1, MOST_ACTS);
            count = Math.min(count + 1, MOST_ACTS);
        }

        boolean restore(Scene scene) {
            if (count == 0) {
                return false;
            }
            next = Math.floorMod(next - 1, MOST_ACTS);
            count--;
            scene.copyFrom(past[next]);
            return true;
        }
    }

    /** What would come of a scene, tried on another one; and what was seen of the years ahead. */
    private static final class Ahead {
        private static final int SETS = 1 << MOST_PEOPLE;

        private final Scene trial = new Scene();
        private final int[] rows = new int[MOST_ROWS * ROW_BYTES];
        private int rowCount = 0;
        // Of each set of people who spare, the portraits that come of it, once they are known.
        private final int[] outcomes = new int[SETS * MOST_PEOPLE];
        private final boolean[] known = new boolean[SETS];
        private final int[] looksByThought = new int[(MOST_THOUGHT + 1) * (MOST_SEEN + 1)];
        private int bestHouse = NONE;
        private int bestOther = NONE;
        private int bestLook = NONE;
        private int bestYear = NONE;
        private int bestLeft = NONE;

        int countSeen() {
            return rowCount;
        }

        void forgetSeen() {
            rowCount = 0;
        }

        Scene sceneAfter(Told told, Scene now, int years) {
            trial.copyFrom(now);
            told.pass(trial, years);
            return trial;
        }

        int firstCurtain(Told told, Scene now, int person) {
            trial.copyFrom(now);
            int last = Math.min(MOST_AHEAD, LAST_YEAR - now.year);
            for (int ahead = 0; ahead <= last; ahead++) {
                if (trial.lookOf(person) == 0) {
                    return ahead;
                }
                told.pass(trial, 1);
            }
            return NONE;
        }

        boolean findChange(Told told, Scene now, int years) {
            bestHouse = NONE;
            bestLook = sceneAfter(told, now, years).allLooks();
            for (int one = 0; one < now.houses; one++) {
                for (int other = one + 1; other < now.houses; other++) {
                    trial.copyFrom(now);
                    trial.swapHouses(one, other);
                    told.pass(trial, years);
                    if (trial.allLooks() > bestLook) {
                        bestHouse = one;
                        bestOther = other;
                        bestLook = trial.allLooks();
                    }
                }
            }
            return bestHouse != NONE;
        }

        boolean findHome(Told told, Scene now, int face, int kind, int years) {
            bestHouse = NONE;
            bestLook = NONE;
            if (now.people >= MOST_PEOPLE) {
                return false;
            }
            for (int house = 0; house < now.houses; house++) {
                if (now.lodgerAt(house) == NONE) {
                    trial.copyFrom(now);
                    trial.moveIn(house, face, kind);
                    told.pass(trial, years);
                    if (trial.lookOf(now.people) > bestLook) {
                        bestHouse = house;
                        bestLook = trial.lookOf(now.people);
                    }
                }
            }
            return bestHouse != NONE;
        }

        int fewestToPart(Told told, Scene now) {
            int feuds = told.feudBits(now);
            int sets = 1 << now.people;
            int best = sets - 1;
            for (int set = 0; set < sets; set++) {
                if (Integer.bitCount(set) < Integer.bitCount(best) && parts(now, feuds, set)) {
                    best = set;
                }
            }
            return best;
        }

        private static boolean parts(Scene now, int feuds, int set) {
            for (int house = 0; house < now.houses; house++) {
                int one = now.lodgerAt(house);
                int other = now.lodgerAt(house + 1);
                boolean isFeud = one != NONE && other != NONE && (feuds >> house & 1) == 1;
                if (isFeud && (set >> one & 1) == 0 && (set >> other & 1) == 0) {
                    return false;
                }
            }
            return true;
        }

        void forgetOutcomes() {
            for (int set = 0; set < SETS; set++) {
                known[set] = false;
            }
        }

        boolean isAtRest(Told told, Scene now, int years, int set) {
            for (int person = 0; person < now.people; person++) {
                int otherwise = set ^ 1 << person;
                if (lookIn(told, now, years, otherwise, person) > lookIn(told, now, years, set, person)) {
                    return false;
                }
            }
            return true;
        }

        private int lookIn(Told told, Scene now, int years, int set, int person) {
            if (set < 0 || set >= SETS || !now.isPerson(person)) {
                return 0;
            }
            if (!known[set]) {
                known[set] = true;
                trial.copyFrom(now);
                for (int other = 0; other < now.people; other++) {
                    trial.setSparing(other, set >> other & 1);
                }
                told.pass(trial, years);
                for (int other = 0; other < MOST_PEOPLE; other++) {
                    outcomes[set * MOST_PEOPLE + other] = trial.lookOf(other);
                }
            }
            return outcomes[set * MOST_PEOPLE + person];
        }

        boolean readSeen(Tape tape, Scene now) {
            int size = tape.size();
            if (size == 0 || size > rows.length || size % ROW_BYTES != 0) {
                return false;
            }
            for (int place = 0; place < size; place += ROW_BYTES) {
                boolean canBe = tape.byteAt(place) <= MOST_SEEN && now.isPerson(tape.byteAt(place + 1));
                if (!canBe || tape.byteAt(place + 2) > MOST_LOOK) {
                    return false;
                }
            }
            for (int place = 0; place < size && place < rows.length; place++) {
                rows[place] = tape.byteAt(place);
            }
            rowCount = size / ROW_BYTES;
            return true;
        }

        int possibleThoughts(Told told, Scene now, int person, int of) {
            int possible = 0;
            for (int thought = 0; thought <= MOST_THOUGHT; thought++) {
                trial.copyFrom(now);
                trial.setThought(person, of, thought);
                possible |= comesAsSeen(told) ? 1 << thought : 0;
            }
            return possible;
        }

        int possibleFaces(Told told, Scene now, int person) {
            int possible = 0;
            for (int face = 0; face <= MOST_FACE; face++) {
                trial.copyFrom(now);
                trial.setFace(person, face);
                possible |= comesAsSeen(told) ? 1 << face : 0;
            }
            return possible;
        }

        private boolean comesAsSeen(Told told) {
            int last = 0;
            for (int row = 0; row < rowCount; row++) {
                last = Math.max(last, seenAt(row, 0));
            }
            if (trial.year + last > LAST_YEAR) {
                return false;
            }
            for (int ahead = 0; ahead <= last; ahead++) {
                if (!isAsSeen(ahead)) {
                    return false;
                }
                told.pass(trial, 1);
            }
            return true;
        }

        private boolean isAsSeen(int ahead) {
            for (int row = 0; row < rowCount; row++) {
                if (seenAt(row, 0) == ahead && trial.lookOf(seenAt(row, 1)) != seenAt(row, 2)) {
                    return false;
                }
            }
            return true;
        }

        private int seenAt(int row, int column) {
            int place = row * ROW_BYTES + column;
            return place >= 0 && place < rows.length ? rows[place] : 0;
        }

        boolean findTelling(Told told, Scene now, int person, int of, int possible) {
            int last = Math.min(MOST_SEEN, LAST_YEAR - now.year);
            bestYear = NONE;
            bestLeft = MOST_THOUGHT + 2;
            for (int thought = 0; thought <= MOST_THOUGHT; thought++) {
                trial.copyFrom(now);
                trial.setThought(person, of, thought);
                for (int ahead = 1; ahead <= last && possible != 0; ahead++) {
                    told.pass(trial, 1);
                    looksByThought[thought * (MOST_SEEN + 1) + ahead] = trial.lookOf(of);
                }
            }
            for (int ahead = 1; ahead <= last && possible != 0; ahead++) {
                int left = mostLeft(possible, ahead);
                if (left < bestLeft) {
                    bestYear = ahead;
                    bestLeft = left;
                }
            }
            return bestYear != NONE;
        }

        private int mostLeft(int possible, int ahead) {
            int most = 0;
            for (int thought = 0; thought <= MOST_THOUGHT; thought++) {
                int alike = 0;
                for (int other = 0; other <= MOST_THOUGHT; other++) {
                    boolean arePossible = (possible >> thought & possible >> other & 1) == 1;
                    alike += arePossible && lookBy(thought, ahead) == lookBy(other, ahead) ? 1 : 0;
                }
                most = Math.max(most, alike);
            }
            return most;
        }

        private int lookBy(int thought, int ahead) {
            int place = thought * (MOST_SEEN + 1) + ahead;
            return place >= 0 && place < looksByThought.length ? looksByThought[place] : 0;
        }
    }

    /** A question of all people. */
    private static final class Question {
        private final Code code = new Code();
        private int verb = FIRST;

        boolean read(Reader reader, Formulas formulas) {
            reader.begin();
            if (!reader.isAnyWord() || reader.value < FIRST || reader.value > LEAST) {
                return reader.unexpected();
            }
            verb = reader.value;
            code.clear();
            boolean isTest = verb == FIRST || verb == LAST || verb == OFTEN;
            if (!formulas.readRule(code, RULE_QUESTION, isTest)) {
                return false;
            }
            return reader.isAtEnd() || reader.unexpected();
        }

        long answer(Scene scene) {
            boolean isPlace = verb == FIRST || verb == LAST;
            long answer = isPlace ? NONE : 0;
            for (int person = 0; person < scene.people; person++) {
                setFor(scene, person);
                int worth = code.work(RULE_QUESTION, scene);
                if (person == 0 && (verb == MOST || verb == LEAST)) {
                    answer = worth;
                } else {
                    answer = joined(answer, person, worth);
                }
            }
            return answer;
        }

        private long joined(long answer, int person, int worth) {
            switch (verb) {
                case FIRST:
                    return answer == NONE && worth == 1 ? person : answer;
                case LAST:
                    return worth == 1 ? person : answer;
                case OFTEN:
                case TOTAL:
                    return answer + worth;
                case MOST:
                    return Math.max(answer, worth);
                case LEAST:
                    return Math.min(answer, worth);
                default:
                    return answer;
            }
        }

        private void setFor(Scene scene, int person) {
            code.setValue(NUMBER, person);
            code.setValue(HOUSE, scene.homeOf(person));
            code.setValue(LOOK, scene.lookOf(person));
            code.setValue(FACE, scene.faceOf(person));
            code.setValue(KIND, scene.kindOf(person));
            code.setValue(SPARES, scene.sparingOf(person));
            code.setValue(YEAR, scene.year);
        }
    }

    /** Images of a scene, written and read. */
    private static final class Picture {
        private static final int FIRST_CHECK = 149;
        private static final int CHECKS = 251;

        // The year and the check, and of each person three bytes and a thought of each other one.
        private final int[] bytes = new int[3 + MOST_PEOPLE * (MOST_PEOPLE + 2)];
        private int length = 0;
        private int check = FIRST_CHECK;
        private final Scene scratch = new Scene();

        int byteAt(int k) {
            return k >= 0 && k < length && k < bytes.length ? bytes[k] : NONE;
        }

        int write(Scene scene) {
            length = 0;
            check = FIRST_CHECK;
            add(scene.year / 256);
            add(scene.year % 256);
            for (int person = 0; person < scene.people; person++) {
                add(scene.homeOf(person));
                add(scene.lookOf(person));
                add(scene.sparingOf(person));
                for (int of = 0; of < scene.people; of++) {
                    if (of != person) {
                        add(scene.thoughtOf(person, of));
                    }
                }
            }
            add(check);
            return length;
        }

        private void add(int octet) {
            if (length < bytes.length) {
                bytes[length] = octet;
                length++;
                check = (3 * check + octet) % CHECKS;
            }
        }

        /** The scene becomes what the tape tells; false, and it stays, when the tape is no image of it. */
        boolean read(Tape tape, Scene scene) {
            int size = 3 + scene.people * (scene.people + 2);
            int year = 256 * tape.byteAt(0) + tape.byteAt(1);
            if (tape.size() != size || !isChecked(tape) || year > LAST_YEAR) {
                return false;
            }
            scratch.copyFrom(scene);
            scratch.year = year;
            scratch.came = 0;
            for (int house = 0; house < scene.houses; house++) {
                scratch.place(NONE, house);
            }
            for (int person = 0; person < scene.people; person++) {
                if (!readPerson(tape, 2 + person * (scene.people + 2), person)) {
                    return false;
                }
            }
            scene.copyFrom(scratch);
            return true;
        }

        private static boolean isChecked(Tape tape) {
            int due = FIRST_CHECK;
            for (int place = 0; place < tape.size() - 1; place++) {
                due = (3 * due + tape.byteAt(place)) % CHECKS;
            }
            return tape.byteAt(tape.size() - 1) == due;
        }

        private boolean readPerson(Tape tape, int from, int person) {
            int home = tape.byteAt(from);
            int look = tape.byteAt(from + 1);
            int on = tape.byteAt(from + 2);
            if (!scratch.isHouse(home) || scratch.lodgerAt(home) != NONE || look > MOST_LOOK || on > 1) {
                return false;
            }
            scratch.place(person, home);
            scratch.setLook(person, look);
            scratch.setSparing(person, on);
            int place = from + 3;
            for (int of = 0; of < scratch.people; of++) {
                if (of != person) {
                    if (tape.byteAt(place) > MOST_THOUGHT) {
                        return false;
                    }
                    scratch.setThought(person, of, tape.byteAt(place));
                    place++;
                }
            }
            return true;
        }
    }
}
