/** Promises 9 and 18: pin, collect. */
public final class CollectTest {
    public static void main(String[] args) {
        wrongPins();
        nothingTold();
        order();
        pins();
        pinOfLaterBlob();
        digestZero();
        keys();
        ordersOfKeys();
        synced();
        collectTwice();
        Check.end();
    }

    private static void wrongPins() {
        Lasting x = new Lasting();
        for (int pin : new int[] {-1, 4, Integer.MIN_VALUE, Integer.MAX_VALUE}) {
            Check.fails("pin(" + pin + ", 1)", x, Check.ARGUMENT, () -> x.pin(pin, 1));
            Check.fails("pin(" + pin + ", 0)", x, Check.ARGUMENT, () -> x.pin(pin, 0));
        }
        x.pin(0, 1);
        x.pin(3, 1);
        Check.same("pins are in no journal", x.count(2), 0);
    }

    private static void nothingTold() {
        Lasting x = new Lasting();
        long one = Check.keep(x, 1);
        Check.keep(x, 2);
        x.learn(7, one);
        x.tell(0, one);
        x.untell(0);
        Check.same("collect()", x.collect(), 2);
        for (int what = 0; what < 4; what++) {
            Check.same("count(" + what + ")", x.count(what), 0);
        }
        Check.same("length", x.length(one), BlobJournal.NONE);
        Check.fails("look", x, Check.ELEMENT, () -> x.look(7));
        Check.same("typed bytes stay", x.type(0), 5);
    }

    private static void order() {
        Lasting x = new Lasting();
        long one = Check.keep(x, 1, 1);
        long two = Check.keep(x, 2);
        long three = Check.keep(x, 3, 3, 3);
        long four = Check.keep(x, 4);
        x.tell(6, four);
        x.learn(9, three);
        x.tell(2, one);
        x.learn(8, one);
        x.learn(7, two);
        x.tell(4, four);
        x.pin(1, three);
        Check.same("collect()", x.collect(), 1);
        Check.sameText("journal", Check.journal(x), Check.row(Check.join(
            Check.record(1, 1, 1), Check.record(1, 3, 3, 3), Check.record(1, 4),
            Check.tellRecord(2, one), Check.tellRecord(4, four), Check.tellRecord(6, four),
            Check.keyRecord(9, three), Check.keyRecord(8, one))));
        Check.same("blobs", x.count(0), 3);
        Check.same("keys", x.count(1), 2);
        Check.same("tag(2)", x.tag(2), one);
        Check.same("tag(4)", x.tag(4), four);
        Check.same("tag(6)", x.tag(6), four);
        Check.same("length of what went", x.length(two), BlobJournal.NONE);
        Check.sameText("the first", Check.blob(x, one), Check.row(1, 1));
        Check.sameText("the third", Check.blob(x, three), Check.row(3, 3, 3));
        Check.sameText("the fourth", Check.blob(x, four), Check.row(4));
        Check.same("look(9)", x.look(9), three);
        Check.fails("look(7)", x, Check.ELEMENT, () -> x.look(7));
        Check.fails("tell of what went", x, Check.ELEMENT, () -> x.tell(0, two));
    }

    private static void pins() {
        Lasting x = new Lasting();
        long[] digests = new long[6];
        for (int i = 0; i < 6; i++) {
            digests[i] = Check.keep(x, i);
        }
        for (int pin = 0; pin < 4; pin++) {
            x.pin(pin, digests[pin]);
        }
        x.pin(1, digests[4]);
        x.pin(2, 0);
        Check.same("collect()", x.collect(), 3);
        Check.sameText("journal", Check.journal(x), Check.row(Check.join(
            Check.record(1, 0), Check.record(1, 3), Check.record(1, 4))));
        Check.same("collect() with the pins still there", x.collect(), 0);
        x.pin(0, 0);
        x.pin(3, digests[0]);
        Check.same("collect() with pins changed", x.collect(), 1);
        Check.same("length by pin 3", x.length(digests[0]), 1);
        Check.same("length by no pin", x.length(digests[3]), BlobJournal.NONE);
        x.crash(0, 0);
        Check.same("collect() after a crash took the pins", x.collect(), 2);
    }

    private static void pinOfLaterBlob() {
        Lasting x = new Lasting();
        Check.type(x, 1);
        x.pin(0, x.digest());
        Check.same("collect() of nothing", x.collect(), 0);
        long one = x.keep();
        Check.same("collect() of what was pinned before it came", x.collect(), 0);
        Check.same("length", x.length(one), 1);
    }

    private static void digestZero() {
        Lasting x = new Lasting();
        Check.keep(x, Check.DIGEST_ZERO);
        x.pin(0, 0);
        x.learn(1, 0);
        x.tell(5, 0);
        Check.same("collect() of 0 by a tag", x.collect(), 0);
        Check.sameText("journal", Check.journal(x), Check.row(Check.join(
            Check.record(1, Check.DIGEST_ZERO), Check.tellRecord(5, 0), Check.keyRecord(1, 0))));
        x.untell(5);
        Check.same("collect() of 0 by no tag", x.collect(), 1);
        Check.same("keys", x.count(1), 0);
        Check.same("journal", x.count(2), 0);
    }

    private static void keys() {
        Lasting x = new Lasting();
        long one = Check.keep(x, 1);
        x.tell(0, one);
        x.learn(1, one);
        x.learn(2, 12345);
        x.pin(0, 12345);
        Check.same("collect()", x.collect(), 0);
        Check.same("keys whose blobs are there", x.count(1), 1);
        Check.fails("a key that tells no blob", x, Check.ELEMENT, () -> x.look(2));
    }

    private static void ordersOfKeys() {
        Lasting x = new Lasting();
        long one = Check.keep(x, 1);
        long two = Check.keep(x, 2);
        x.pin(0, one);
        x.pin(1, two);
        x.learn(3, one);
        x.learn(1, one);
        x.learn(2, 99);
        x.learn(3, two);
        x.learn(4, one);
        x.collect();
        int[] blobs = Check.join(Check.record(1, 1), Check.record(1, 2));
        Check.sameText("a key told anew keeps its place", Check.journal(x), Check.row(Check.join(blobs,
            Check.keyRecord(3, two), Check.keyRecord(1, one), Check.keyRecord(4, one))));
        x.learn(2, one);
        x.learn(1, 98);
        x.collect();
        x.learn(1, two);
        x.collect();
        Check.sameText("a key that went comes last", Check.journal(x), Check.row(Check.join(blobs,
            Check.keyRecord(3, two), Check.keyRecord(4, one), Check.keyRecord(2, one),
            Check.keyRecord(1, two))));
    }

    private static void synced() {
        Lasting x = new Lasting();
        long one = Check.keep(x, 1);
        Check.keep(x, 2);
        x.sync();
        x.tell(0, one);
        x.collect();
        Check.same("synced", x.count(3), 18);
        Check.same("crash behind a collection", x.crash(0, 0), 18);
        Check.same("tag(0)", x.tag(0), one);
        Check.same("length", x.length(one), 1);
    }

    private static void collectTwice() {
        Lasting x = new Lasting();
        for (int i = 0; i < 20; i++) {
            Check.keep(x, Check.rowOf(i, i, 200));
        }
        x.pin(0, Check.keep(x, Check.rowOf(19, 19, 200)));
        x.tell(7, Check.keep(x, Check.rowOf(10, 10, 200)));
        Check.same("collect()", x.collect(), 18);
        Check.same("journal", x.count(2), 23 + 14 + 13);
        for (int i = 30; i < 48; i++) {
            Check.keep(x, i);
        }
        Check.same("blobs again", x.count(0), 20);
        x.pin(0, Check.keep(x, 47));
        Check.same("collect() again", x.collect(), 18);
        Check.sameText("journal", Check.journal(x), Check.row(Check.join(
            Check.record(1, Check.rowOf(10, 10, 200)), Check.record(1, 47), Check.tellRecord(7, x.tag(7)))));
    }
}
