import java.util.ArrayList;
import java.util.List;
import java.util.function.Consumer;
import java.util.function.Supplier;
import java.util.function.ToLongFunction;

/**
 * Whether all stays behind a call: two like objects are made, one of them is asked, and then both are asked for all
 * that can be told, what is on the tape, what can be undone and the seed too. Promise 36 counts are told apart.
 */
final class Twins {
    private static final int CALLS = 512;

    private final Check check;
    private final Supplier<Retouched> maker;
    private final String state;

    Twins(Check check, String state, Supplier<Retouched> maker) {
        this.check = check;
        this.state = state;
        this.maker = maker;
    }

    /** A call that leaves the tape as it is, answers so, and is counted by this status, or by none. */
    void stays(String call, ToLongFunction<Retouched> asked, long answer, int counter) {
        compare(call, asked, answer, counter, x -> { }, true);
    }

    /** A call that takes a tape of its own, whatever was on the tape ahead of it; its fault is told apart. */
    void staysBut(String call, ToLongFunction<Retouched> asked, long answer, int counter, boolean faultToo) {
        compare(call, asked, answer, counter, x -> x.end(0), faultToo);
    }

    private void compare(String call, ToLongFunction<Retouched> asked, long answer, int counter,
            Consumer<Retouched> likewise, boolean faultToo) {
        String name = call + " of " + state;
        Retouched one = maker.get();
        Retouched other = maker.get();
        check.due(name, asked.applyAsLong(one), answer);
        likewise.accept(other);
        for (int what = 0; what < 6; what++) {
            int more = what == counter ? 1 : 0;
            check.due("status(" + what + ") behind " + name, one.status(what), other.status(what) + more);
        }
        List<Long> got = all(one, faultToo);
        List<Long> due = all(other, faultToo);
        check.due("how much is told behind " + name, got.size(), due.size());
        for (int i = 0; i < Math.min(got.size(), due.size()); i++) {
            check.due("answer " + i + " behind " + name, got.get(i), due.get(i));
        }
        check.due("so many calls behind " + name, got.size() < CALLS / 2, true);
    }

    /** Everything that can be told of an object; it is of no more use behind that. */
    private static List<Long> all(Retouched x, boolean faultToo) {
        List<Long> told = new ArrayList<>();
        if (faultToo) {
            told.add((long) x.fault(0));
            told.add((long) x.fault(1));
        }
        for (int what = 0; what <= 9; what++) {
            told.add((long) x.has(what));
        }
        addPeople(told, x);
        addKept(told, x);
        for (int k = 0; x.octet(k) >= 0; k++) {
            told.add((long) x.octet(k));
        }
        // Blanks behind the tape's text tell how much is there, and do not change what it asks.
        told.add((long) x.feed(0x20202020, 0x20202020, 0x20202020, 0x20202020, 0x20202020));
        told.add(x.ask());
        told.add((long) x.chance(3));
        addImage(told, x);
        for (int i = 0; i < 25 && x.undo(); i++) {
            told.add((long) x.has(7));
            addImage(told, x);
        }
        return told;
    }

    private static void addPeople(List<Long> told, Retouched x) {
        int people = x.has(1);
        for (int house = 0; house < x.has(0); house++) {
            told.add((long) x.house(house));
            told.add((long) x.feud(house));
        }
        for (int p = 0; p < people; p++) {
            told.add((long) x.letter(p, 0));
            told.add((long) x.faces(p));
            told.add((long) x.paints(p, 0));
            told.add((long) x.paints(p, 1));
            for (int what = 0; what < 7; what++) {
                told.add((long) x.person(p, what));
            }
            for (int of = 0; of < people; of++) {
                told.add((long) x.thinks(p, of));
                told.add((long) x.thoughts(p, of));
            }
        }
    }

    /** The oldest three and the latest three. */
    private static void addKept(List<Long> told, Retouched x) {
        int count = x.has(7);
        for (int k = 0; k < count; k++) {
            if (k < 3 || k >= count - 3) {
                for (int what = 0; what < 3; what++) {
                    told.add((long) x.kept(k, what));
                }
            }
        }
    }

    /** The last byte is a check of all the others. */
    private static void addImage(List<Long> told, Retouched x) {
        int size = x.image();
        told.add((long) size);
        told.add((long) x.octet(size - 1));
    }
}
