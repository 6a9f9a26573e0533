/** Promises 1 to 3: a new object, feed, end. */
public final class TapeTest {
    private static final Check CHECK = new Check("TapeTest");

    public static void main(String[] args) {
        newObject();
        feeding();
        ending();
        byteOrder();
        CHECK.finish();
    }

    private static void newObject() {
        Retouched x = new Retouched();
        for (int what = 0; what <= 9; what++) {
            CHECK.due("has(" + what + ") of a new object", x.has(what), 0);
        }
        for (int what = 0; what <= 5; what++) {
            CHECK.due("status(" + what + ") of a new object", x.status(what), 0);
        }
        CHECK.due("fault(0) of a new object", x.fault(0), 0);
        CHECK.due("fault(1) of a new object", x.fault(1), -1);
        CHECK.due("octet(0) of a new object", x.octet(0), -1);
        CHECK.due("end(1) of an empty tape", x.end(1), false);
        CHECK.due("house(0)", x.house(0), -1);
        CHECK.due("parted()", x.parted(), 0);
        CHECK.due("rest(1)", x.rest(1), -1);
    }

    private static void feeding() {
        Retouched x = new Retouched();
        for (int i = 1; i <= 80; i++) {
            CHECK.due("feed " + i, x.feed(0, 0, 0, 0, 0), 20 * i);
        }
        CHECK.due("feed beyond 1600", x.feed(0, 0, 0, 0, 0), -1);
        CHECK.due("status(0)", x.status(0), 1);
        CHECK.due("end(1581)", x.end(1581), true);
        CHECK.due("feed to 1601", x.feed(0, 0, 0, 0, 0), -1);
        CHECK.due("end(1580)", x.end(1580), true);
        CHECK.due("feed to 1600", x.feed(0, 0, 0, 0, 0), 1600);
        CHECK.due("status(0)", x.status(0), 2);
    }

    private static void ending() {
        Retouched x = new Retouched();
        x.feed(1, 2, 3, 4, 5);
        CHECK.due("end(21)", x.end(21), false);
        CHECK.due("end(-1)", x.end(-1), false);
        CHECK.due("end(least)", x.end(Integer.MIN_VALUE), false);
        CHECK.due("end(20)", x.end(20), true);
        CHECK.due("end(3)", x.end(3), true);
        CHECK.due("end(4)", x.end(4), false);
        CHECK.due("feed behind three", x.feed(0, 0, 0, 0, 0), 23);
        CHECK.due("end(0)", x.end(0), true);
        CHECK.due("feed behind none", x.feed(0, 0, 0, 0, 0), 20);
        CHECK.due("status(0)", x.status(0), 4);
    }

    private static void byteOrder() {
        Retouched x = new Retouched();
        // "terr" "ace " "2;so" "ul a" " at "; what stood behind the cut must not come back.
        x.feed(0x74657272, 0x61636520, 0x323b736f, 0x756c2061, 0x20617420);
        x.feed(0x58585858, 0x58585858, 0x58585858, 0x58585858, 0x58585858);
        x.end(20);
        x.feed(0x30206661, 0x63652039, 0x206b696e, 0x6420333b, 0x58585858);
        x.end(36);
        CHECK.due("terrace()", x.terrace(), 2);
        CHECK.due("person(0, 2)", x.person(0, 2), 9);
        CHECK.due("the tape goes", x.end(1), false);
        // Bytes from 128 on are no numbers below 0.
        x.feed(0x00ffffff, 0, 0, 0, 0);
        x.end(3);
        CHECK.due("see() of 0 255 255", x.see(), -1);
        CHECK.due("the tape goes", x.feed(0, 0, 0, 0, 0), 20);
    }
}
