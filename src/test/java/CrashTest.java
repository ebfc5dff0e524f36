/** Promise 17: crash. */
public final class CrashTest {
    public static void main(String[] args) {
        wrongCounts();
        everyLength();
        everySpoiltByte();
        noSuchByte();
        fullJournal();
        emptyBlob();
        takesPins();
        stateComesBack();
        digestZero();
        longBlob();
        recordsThatAreRight();
        recordsThatAreWrong();
        roomForBlobs();
        roomForKeys();
        veryLongBlob();
        Check.end();
    }

    private static Lasting sample() {
        Lasting x = new Lasting();
        long one = Check.keep(x, 1);
        x.tell(3, one);
        x.sync();
        long two = Check.keep(x, 2, 2);
        x.tell(3, two);
        x.learn(5, two);
        x.untell(3);
        x.learn(5, one);
        return x;
    }

    /** How many bytes of the sample are in whole records, if so many are left behind the synced ones. */
    private static int whole(int n) {
        int[] ends = {0, 6, 19, 39, 44, 64};
        int last = 0;
        for (int end : ends) {
            last = end <= n ? end : last;
        }
        return 18 + last;
    }

    private static void wrongCounts() {
        Lasting x = sample();
        Check.fails("crash(-1, 0)", x, Check.ARGUMENT, () -> x.crash(-1, 0));
        Check.fails("crash(65, 0)", x, Check.ARGUMENT, () -> x.crash(65, 0));
        Check.fails("crash(least, 0)", x, Check.ARGUMENT, () -> x.crash(Integer.MIN_VALUE, 0));
        Check.fails("crash(most, 0)", x, Check.ARGUMENT, () -> x.crash(Integer.MAX_VALUE, 0));
        x.sync();
        Check.fails("crash(1, 0) when all is synced", x, Check.ARGUMENT, () -> x.crash(1, 0));
        Check.same("crash(0, 0) when all is synced", x.crash(0, 0), 82);
    }

    private static void everyLength() {
        for (int n = 0; n <= 64; n++) {
            Lasting x = sample();
            String before = Check.journal(x);
            Check.same("crash(" + n + ", -1)", x.crash(n, -1), whole(n));
            Check.same("journal", x.count(2), whole(n));
            Check.same("synced", x.count(3), whole(n));
            String after = Check.journal(x);
            Check.sameText("bytes", before.substring(0, after.length() - 1) + "]", after);
            Check.same("blobs", x.count(0), n >= 6 ? 2 : 1);
            Check.same("keys", x.count(1), n >= 39 ? 1 : 0);
            Check.same("typed bytes stay", x.type(0), 6);
        }
    }

    private static void everySpoiltByte() {
        int[] ends = {0, 6, 19, 39, 44, 64};
        for (int spoilt = 0; spoilt < 64; spoilt++) {
            int due = 0;
            for (int end : ends) {
                due = end <= spoilt ? end : due;
            }
            Check.same("crash(64, " + spoilt + ")", sample().crash(64, spoilt), 18 + due);
        }
    }

    private static void noSuchByte() {
        for (int spoilt : new int[] {-1, -18, 64, 63, Integer.MIN_VALUE, Integer.MAX_VALUE}) {
            Lasting x = sample();
            boolean last = spoilt == 63;
            Check.same("crash(64, " + spoilt + ")", x.crash(64, spoilt), last ? 62 : 82);
        }
        Check.same("crash(44, 44)", sample().crash(44, 44), 62);
        Check.same("crash(44, 43)", sample().crash(44, 43), 57);
        Check.same("crash(0, 0)", sample().crash(0, 0), 18);
    }

    private static void fullJournal() {
        for (int spoilt : new int[] {700, 699, 680, 679}) {
            Lasting x = new Lasting();
            for (int i = 0; i < 35; i++) {
                x.learn(5, i);
            }
            int records = spoilt / 20;
            Check.same("crash(700, " + spoilt + ")", x.crash(700, spoilt), 20 * records);
            Check.same("look(5)", x.look(5), records - 1);
        }
    }

    private static void emptyBlob() {
        Lasting x = new Lasting();
        Check.keep(x, 1);
        long empty = Check.keep(x);
        Check.same("crash behind the shortest record", x.crash(9, 9), 9);
        Check.same("length", x.length(empty), 0);
        Lasting y = new Lasting();
        Check.keep(y, 1);
        Check.keep(y);
        Check.same("crash before its sum", y.crash(8, 9), 5);
        Check.same("length", y.length(empty), BlobJournal.NONE);
    }

    private static void takesPins() {
        Lasting x = new Lasting();
        long one = Check.keep(x, 1);
        for (int pin = 0; pin < 4; pin++) {
            x.pin(pin, one);
        }
        Check.same("crash", x.crash(5, -1), 5);
        Check.same("collect() without pins", x.collect(), 1);
        Lasting y = new Lasting();
        long same = Check.keep(y, 1);
        y.pin(2, same);
        Check.fails("crash that throws", y, Check.ARGUMENT, () -> y.crash(6, 0));
        Check.same("collect() with the pin still there", y.collect(), 0);
    }

    private static void stateComesBack() {
        Lasting x = sample();
        x.crash(39, 50);
        long two = Check.keep(x, 2, 2);
        Check.same("journal when it is there already", x.count(2), 57);
        Check.same("tag(3)", x.tag(3), two);
        Check.same("look(5)", x.look(5), two);
        Check.sameText("blob", Check.blob(x, two), Check.row(2, 2));
        Lasting y = sample();
        y.crash(6, 0);
        Check.same("tag(3) of the synced bytes", y.tag(3), Check.keep(y, 1));
        Check.same("blob that went", y.length(two), BlobJournal.NONE);
        Check.fails("key that went", y, Check.ELEMENT, () -> y.look(5));
        Lasting z = sample();
        z.crash(64, -1);
        Check.same("tag(3) untold", z.tag(3), 0);
        Check.same("look(5) told anew", z.look(5), Check.keep(z, 1));
        Check.same("writing goes on behind it", z.count(2), 82);
        z.learn(6, 6);
        Check.same("journal", z.count(2), 102);
        Check.same("synced", z.count(3), 82);
    }

    private static void digestZero() {
        Lasting x = new Lasting();
        Check.keep(x, Check.DIGEST_ZERO);
        x.tell(1, 0);
        Check.same("crash", x.crash(37, -1), 37);
        x.tell(1, 0);
        Check.same("a tag that tells 0 already", x.count(2), 37);
        x.untell(1);
        x.crash(5, -1);
        Check.fails("a tag that tells none", x, Check.ELEMENT, () -> x.untell(1));
    }

    private static void longBlob() {
        Lasting x = new Lasting();
        Check.same("crash into nothing", Spoilt.crashInto(x), 195);
        Check.same("blobs", x.count(0), 1);
        int[] bytes = Check.join(Check.rowOf(64, 101, 0), new int[] {(1 + 64 + 101) & 255},
            Check.record(1, Check.rowOf(64, 102, 0)), Check.record(1, Check.rowOf(51, 103, 0)),
            new int[] {1, 1, 0});
        Check.sameText("journal", Check.journal(x), Check.row(Check.record(1, bytes)));
        long digest = Check.digestOf(bytes);
        Check.same("length", x.length(digest), 191);
        Check.same("byte 190", x.byteOf(digest, 190), 0);
        Check.same("byte 64", x.byteOf(digest, 64), 166);
        Check.fails("byte 191", x, Check.INDEX, () -> x.byteOf(digest, 191));
        Check.keep(x, 5);
        x.tell(0, digest);
        Check.same("collect()", x.collect(), 1);
        Check.sameText("journal", Check.journal(x), Check.row(Check.join(
            Check.record(1, bytes), Check.tellRecord(0, digest))));
        x.crash(0, 0);
        Check.sameText("blob", Check.blob(x, digest), Check.row(bytes));
    }

    private static void recordsThatAreRight() {
        Lasting x = new Lasting();
        long one = Check.keep(x, 1);
        x.tell(1, one);
        int[] behind = Check.join(Check.record(1, 1), Check.record(3, 7), Check.record(3, 1),
            Check.tellRecord(7, one), Check.keyRecord(4, 4), Check.record(1));
        Check.same("records that are right", Spoilt.crashInto(x, behind), 195 + behind.length);
        Check.same("blobs", x.count(0), 3);
        Check.same("tag(7)", x.tag(7), one);
        Check.same("tag(1)", x.tag(1), 0);
        Check.same("look(4)", x.look(4), 4);
        Lasting y = new Lasting();
        Check.keep(y, Check.TWIN_ONE);
        int[] twin = Check.join(Check.record(1, Check.TWIN_TWO), Check.tellRecord(0, Check.TWIN_DIGEST));
        Check.same("a twin's record", Spoilt.crashInto(y, twin), 195 + twin.length);
        Check.sameText("the first twin", Check.blob(y, Check.TWIN_DIGEST), Check.row(Check.TWIN_ONE));
        Check.same("tag(0)", y.tag(0), Check.TWIN_DIGEST);
        y.collect();
        Check.sameText("journal", Check.journal(y), Check.row(Check.join(
            Check.record(1, Check.TWIN_ONE), Check.tellRecord(0, Check.TWIN_DIGEST))));
    }

    private static void recordsThatAreWrong() {
        Lasting model = new Lasting();
        long one = Check.keep(model, 1);
        int[] digest = Check.longBytes(one);
        int[][] wrong = {
            Check.record(0, 1),
            Check.record(5, 1),
            Check.record(0),
            Check.record(255),
            Check.tellRecord(8, one),
            Check.tellRecord(255, one),
            Check.tellRecord(0, one + 1),
            Check.tellRecord(0, 0),
            Check.record(2, digest),
            Check.record(2, Check.join(new int[] {0}, digest, new int[] {0})),
            Check.record(2),
            Check.record(3, 8),
            Check.record(3, 255),
            Check.record(3),
            Check.record(3, 0, 0),
            Check.record(4, Check.join(digest, Check.longBytes(1), new int[] {0})),
            Check.record(4, Check.rowOf(15, 0, 0)),
            Check.record(4),
            {1, 1, 0, 7, 8},
            {1, 0, 1, 2},
            {1, 200, 0, 0, 0, 0},
        };
        for (int[] record : wrong) {
            Lasting x = new Lasting();
            Check.keep(x, 1);
            int[] right = Check.record(1, 77);
            int[] behind = Check.join(right, record, Check.record(1, 78));
            Check.same("a wrong record " + Check.row(record), Spoilt.crashInto(x, behind), 195 + right.length);
            Check.same("blobs", x.count(0), 3);
            Check.same("keys", x.count(1), 0);
            Check.same("synced", x.count(3), 5 + 195 + right.length);
        }
    }

    private static void roomForBlobs() {
        Lasting x = new Lasting();
        for (int i = 0; i < 16; i++) {
            Check.keep(x, i);
        }
        int[] right = Check.join(Check.record(1, 16), Check.record(1, 17), Check.record(1, 18), Check.record(1, 3));
        int[] behind = Check.join(right, Check.record(1, 19), Check.record(1, 4), Check.record(3, 0));
        Check.same("room for 20 blobs", Spoilt.crashInto(x, behind), 195 + right.length);
        Check.same("blobs", x.count(0), 20);
    }

    private static void roomForKeys() {
        Lasting x = new Lasting();
        for (int i = 0; i < 15; i++) {
            x.learn(i, i);
        }
        int[] right = Check.join(Check.keyRecord(15, 3), Check.keyRecord(0, 9));
        Check.same("room for 16 keys", Spoilt.crashInto(x, Check.join(right, Check.keyRecord(16, 3))), 195 + right.length);
        Check.same("keys", x.count(1), 16);
        Check.same("look(15)", x.look(15), 3);
        Check.same("look(0)", x.look(0), 9);
    }

    private static void veryLongBlob() {
        Lasting x = new Lasting();
        // Behind the spoilt record a head tells 300 bytes; as there are not so many, it is not whole.
        Check.same("a record that is not whole", Spoilt.crashInto(x, 1, 44, 1, 0, 0, 0), 195);
        Lasting y = new Lasting();
        int[] bytes = Spoilt.crashIntoLong(y, 300);
        Check.same("blobs", y.count(0), 2);
        Check.same("bytes", y.count(2), 195 + 304);
        long digest = Check.digestOf(bytes);
        Check.same("length", y.length(digest), 300);
        y.pin(0, digest);
        Check.same("collect()", y.collect(), 1);
        Check.sameText("journal", Check.journal(y), Check.row(Check.record(1, bytes)));
    }
}
