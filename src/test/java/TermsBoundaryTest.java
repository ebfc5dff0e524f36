import java.math.BigInteger;

/** The boundary cases of what stands under "Terms": a test of its own for each sentence. */
public final class TermsBoundaryTest {
    private static final int LEAST = Integer.MIN_VALUE;
    private static final int MOST = Integer.MAX_VALUE;
    private static final long[] LONGS =
        {0, 1, -1, 255, 256, 1L << 32, 1L << 63, Long.MAX_VALUE, 0x8070605040302010L};

    public static void main(String[] args) {
        Check.sentence("An object is used for at most 512 calls after it has been made", () -> calls512());
        Check.sentence("for each byte b (0 .. 255) h becomes (h xor b) times 1099511628211; then h xor how "
            + "many bytes there are .. (All wrapping.)", () -> digestWraps());
        Check.sentence("(It may be 0, like any other number: then a tag may tell it, but no pin.)",
            () -> digestZero());
        Check.sentence("like any other number", () -> digestsNextToZero());
        Check.sentence("There are at most 20 BLOBS", () -> twentyBlobs());
        Check.sentence("eight TAGS 0 .. 7, each telling the digest of a blob that is there, or none",
            () -> eightTags());
        Check.sentence("and at most 16 KEYS, longs, each telling a digest.", () -> sixteenKeys());
        Check.sentence("The JOURNAL is a row of at most 700 bytes", () -> sevenHundredBytes());
        Check.sentence("two bytes (the lower first) for how many bytes follow", () -> twoBytesOfLength());
        Check.sentence("a sum byte, the sum of all before it in the record, mod 256", () -> sums());
        Check.sentence("1 a blob's bytes; 2 a tag's number and eight bytes (the lowest first); 3 the number of "
            + "a tag that tells none; 4 a key's and a digest's eight bytes each.", () -> kinds());
        Check.sentence("They are written as it happens, one for each thing that changes", () -> oneForEach());
        Check.sentence("a blob whose digest is there already (be it that of other bytes), or a tag or key that "
            + "tells that already, is not written again.", () -> notWrittenAgain());
        Check.sentence("SYNCED are those bytes that were there at the latest sync() or collection.",
            () -> synced());
        Check.sentence("A CRASH leaves the synced bytes and some more.", () -> crashLeaves());
        Check.sentence("Then all is as the records say", () -> asRecordsSay());
        Check.sentence("read from the beginning as long as they are whole", () -> wholeRecords());
        Check.sentence("and right: the kind 1 to 4", () -> rightKind());
        Check.sentence("so many bytes as it must have (9, 1, 16; of a blob any)", () -> rightLength());
        Check.sentence("the sum", () -> rightSum());
        Check.sentence("room for a blob .. that is new", () -> roomForBlob());
        Check.sentence("room for a .. key that is new", () -> roomForKey());
        Check.sentence("a tag 0 to 7", () -> rightTag());
        Check.sentence("(in 2 with its blob there)", () -> blobIsThere());
        Check.sentence("The rest of the journal goes; all is synced.", () -> restGoes());
        Check.sentence("A COLLECTION keeps the blobs that tags or PINS tell", () -> collectionOfBlobs());
        Check.sentence("and the keys whose digests are those of blobs kept.", () -> collectionOfKeys());
        Check.sentence("The journal is written anew: blobs in the order in which they came, then tags, then "
            + "keys in the order in which they came; all is synced.", () -> writtenAnew());
        Check.sentence("Up to four PINS, 0 .. 3, tell a digest each, or none", () -> fourPins());
        Check.sentence("they are in no journal, and a crash takes them.", () -> pinsGo());
        Check.sentence("A call that throws changes nothing.", () -> throwsChangeNothing());
        Check.sentence("NONE = -1: There is none.", () -> Check.same("NONE", BlobJournal.NONE, -1));
        Check.end();
    }

    private static void calls512() {
        BlobJournal x = new BlobJournal();
        for (int i = 0; i < 255; i++) {
            x.type(i);
            x.cut(0);
        }
        x.learn(1, 2);
        Check.same("the 512th call, behind what changes", x.look(1), 2);
        BlobJournal y = new BlobJournal();
        for (int i = 0; i < 511; i++) {
            try {
                y.count(4);
                Check.complain("count(4) does not throw");
            } catch (IllegalArgumentException e) {
                // just what is due
            }
        }
        Check.same("the 512th call, behind refused ones", y.type(0), 4);
        BlobJournal z = new BlobJournal();
        z.keep();
        for (int i = 0; i < 255; i++) {
            Check.same("collect()", z.collect(), i == 0 ? 1 : 0);
            z.crash(0, 0);
        }
        Check.same("the 512th call, behind collections and crashes", z.keep(), Check.digestOf());
    }

    // The digest

    /** The digest with numbers that do not wrap, cut to 64 bits only after each step. */
    private static long slowDigest(int[] bytes) {
        BigInteger size = BigInteger.ONE.shiftLeft(64);
        BigInteger h = BigInteger.valueOf(-7046029254386353131L).mod(size);
        for (int b : bytes) {
            h = h.xor(BigInteger.valueOf(b)).multiply(BigInteger.valueOf(1099511628211L)).mod(size);
        }
        h = h.xor(BigInteger.valueOf(bytes.length)).multiply(BigInteger.valueOf(-2960836687156293229L)).mod(size);
        return h.xor(h.shiftRight(32)).longValue();
    }

    private static void digestWraps() {
        for (int length = 0; length <= 64; length++) {
            for (int b : new int[] {0, 1, 127, 128, 254, 255}) {
                Lasting x = new Lasting();
                int[] bytes = Check.rowOf(length, b, 255 - b);
                Check.type(x, bytes);
                Check.same("digest() of " + Check.row(bytes), x.digest(), slowDigest(bytes));
                Check.same("keep()", x.keep(), slowDigest(bytes));
                Check.same("length", x.length(slowDigest(bytes)), length);
            }
        }
        for (int length : new int[] {65, 255, 256, 500}) {
            Lasting x = new Lasting();
            int[] bytes = Spoilt.crashIntoLong(x, length);
            Check.same("length by the digest of a long blob", x.length(slowDigest(bytes)), length);
        }
        Lasting x = new Lasting();
        x.type(-1);
        Check.same("digest() of four bytes of 255", x.digest(), slowDigest(new int[] {255, 255, 255, 255}));
    }

    private static void digestZero() {
        Lasting x = new Lasting();
        Check.fails("tell(0, 0) without the blob", x, Check.ELEMENT, () -> x.tell(0, 0));
        Check.same("keep()", Check.keep(x, Check.DIGEST_ZERO), 0);
        Check.same("length(0)", x.length(0), 20);
        Check.same("byteOf(0, 19)", x.byteOf(0, 19), 1);
        for (int pin = 0; pin < 4; pin++) {
            x.pin(pin, 0);
        }
        Check.same("collect() with pins told 0", x.copy().collect(), 1);
        x.learn(0, 0);
        Check.same("collect() with a key that tells 0", x.copy().collect(), 1);
        Check.fails("untell before tell", x, Check.ELEMENT, () -> x.untell(7));
        x.tell(7, 0);
        Check.same("collect() with a tag that tells 0", x.copy().collect(), 0);
        Check.same("tag(7)", x.tag(7), 0);
        int bytes = x.count(2);
        x.tell(7, 0);
        Check.same("bytes after what was told already", x.count(2), bytes);
        Lasting crashed = x.copy();
        crashed.crash(bytes, -1);
        Check.same("collect() after a crash", crashed.collect(), 0);
        crashed.untell(7);
        Check.same("collect() when it is untold", crashed.collect(), 1);
        Check.same("keys then", crashed.count(1), 0);
    }

    /** A digest of -1 is not NONE, and one of 1 is no pin's or tag's number. */
    private static void digestsNextToZero() {
        int[][] rows = {Check.DIGEST_NONE, Check.DIGEST_ONE};
        for (int[] bytes : rows) {
            long digest = bytes == Check.DIGEST_ONE ? 1 : -1;
            Lasting x = new Lasting();
            Check.fails("tell without the blob", x, Check.ELEMENT, () -> x.tell(0, digest));
            Check.same("keep()", Check.keep(x, bytes), digest);
            Check.same("keep() again", x.keep(), digest);
            Check.same("bytes", x.count(2), 24);
            Check.same("length(" + digest + ")", x.length(digest), 20);
            Check.sameText("blob " + digest, Check.blob(x, digest), Check.row(bytes));
            Check.same("collect() with nothing that tells it", x.copy().collect(), 1);
            Lasting pinned = x.copy();
            pinned.pin(3, digest);
            Check.same("collect() with a pin", pinned.copy().collect(), 0);
            pinned.crash(24, -1);
            Check.same("collect() after a crash took the pin", pinned.collect(), 1);
            x.learn(digest, digest);
            x.tell(0, digest);
            Check.same("tag(0)", x.tag(0), digest);
            Check.same("collect() with a tag", x.collect(), 0);
            Check.same("crash(0, -1)", x.crash(0, -1), 24 + 13 + 20);
            Check.same("tag(0) after a crash", x.tag(0), digest);
            Check.same("look(" + digest + ")", x.look(digest), digest);
            x.untell(0);
            Check.same("tag(0) untold", x.tag(0), 0);
            Check.same("collect() when it is untold", x.collect(), 1);
            Check.same("length of what went", x.length(digest), BlobJournal.NONE);
        }
    }

    // How many there are

    private static void twentyBlobs() {
        Lasting x = new Lasting();
        for (int i = 0; i < 20; i++) {
            Check.same("blobs", x.count(0), i);
            Check.keep(x, Check.rowOf(i, i, 100));
        }
        Check.same("blobs", x.count(0), 20);
        for (int i = 0; i < 20; i++) {
            int[] bytes = Check.rowOf(i, i, 100);
            Check.sameText("blob " + i, Check.blob(x, Check.digestOf(bytes)), Check.row(bytes));
        }
        Check.type(x, 99);
        Check.fails("keep() of the 21st", x, Check.UNSUPPORTED, () -> x.keep());
        x.crash(x.count(2), -1);
        Check.same("blobs after a crash", x.count(0), 20);
        Check.fails("keep() of the 21st after a crash", x, Check.UNSUPPORTED, () -> x.keep());
        x.tell(0, Check.digestOf());
        Check.same("collect()", x.collect(), 19);
        Check.keep(x, 99);
        Check.same("blobs", x.count(0), 2);
    }

    private static void eightTags() {
        Lasting x = new Lasting();
        for (int tag = 0; tag < 8; tag++) {
            x.tell(tag, Check.keep(x, tag));
        }
        for (int tag = 0; tag < 8; tag++) {
            Check.same("tag(" + tag + ")", x.tag(tag), Check.digestOf(tag));
        }
        for (int tag : new int[] {-1, 8}) {
            Check.fails("tell(" + tag + ")", x, Check.ARGUMENT, () -> x.tell(tag, Check.digestOf(0)));
        }
        Check.same("collect()", x.collect(), 0);
        for (int tag = 0; tag < 8; tag++) {
            Check.same("tag(" + tag + ") after a collection", x.tag(tag), Check.digestOf(tag));
            x.untell(tag);
            Check.same("tag(" + tag + ") untold", x.tag(tag), 0);
        }
    }

    private static void sixteenKeys() {
        Lasting x = new Lasting();
        for (int i = 0; i < 16; i++) {
            Check.same("keys", x.count(1), i);
            x.learn(i < LONGS.length ? LONGS[i] : 1000 + i, LONGS[i % LONGS.length]);
        }
        Check.same("keys", x.count(1), 16);
        for (int i = 0; i < 16; i++) {
            Check.same("key " + i, x.look(i < LONGS.length ? LONGS[i] : 1000 + i), LONGS[i % LONGS.length]);
        }
        Check.fails("learn of the 17th", x, Check.UNSUPPORTED, () -> x.learn(2000, 1));
        x.crash(x.count(2), -1);
        Check.same("keys after a crash", x.count(1), 16);
        Check.fails("learn of the 17th after a crash", x, Check.UNSUPPORTED, () -> x.learn(2000, 1));
    }

    // The journal

    private static void sevenHundredBytes() {
        Lasting x = new Lasting();
        long one = Check.keep(x, 1);
        x.tell(0, one);
        for (int left = 0; left <= 24; left++) {
            Lasting y = x.copy();
            Check.fill(y, 700 - left);
            Check.type(y, 1, 2, 3, 4, 5);
            tryRoom("keep()", y, left, 9, z -> z.keep());
            tryRoom("tell", y, left, 13, z -> z.tell(7, one));
            tryRoom("untell", y, left, 5, z -> z.untell(0));
            tryRoom("learn", y, left, 20, z -> z.learn(1, 1));
        }
    }

    private interface Act {
        void on(Lasting x);
    }

    /** What needs so many bytes must come to pass if so many are left, and be refused if not. */
    private static void tryRoom(String what, Lasting x, int left, int needs, Act act) {
        Lasting y = x.copy();
        if (left < needs) {
            Check.fails(what + " with room for " + left, y, Check.UNSUPPORTED, () -> act.on(y));
        } else {
            act.on(y);
            Check.same("bytes after " + what + " with room for " + left, y.count(2), 700 - left + needs);
            Check.same("bytes after a crash", y.crash(y.count(2), -1), 700 - left + needs);
        }
    }

    private static void twoBytesOfLength() {
        for (int length : new int[] {0, 1, 63, 64}) {
            Lasting x = new Lasting();
            Check.keep(x, Check.rowOf(length, 7, 7));
            Check.same("lower byte of " + length, x.journal(1), length);
            Check.same("upper byte of " + length, x.journal(2), 0);
        }
        for (int length : new int[] {65, 127, 128, 191, 255, 256, 257, 300, 500}) {
            Lasting x = new Lasting();
            int[] bytes = Spoilt.crashIntoLong(x, length);
            x.pin(0, Check.digestOf(bytes));
            x.collect();
            Check.same("lower byte of " + length, x.journal(1), length % 256);
            Check.same("upper byte of " + length, x.journal(2), length / 256);
            Check.sameText("journal", Check.journal(x), Check.row(Check.record(1, bytes)));
            Check.same("crash behind it", x.crash(0, 0), length + 4);
            Check.sameText("blob", Check.blob(x, Check.digestOf(bytes)), Check.row(bytes));
        }
    }

    private static void sums() {
        int[][] rows = {{252}, {253}, {254}, {255}, {253, 254}, {255, 255}, Check.rowOf(64, 255, 255),
            Check.rowOf(64, 0, 0), {}};
        for (int[] row : rows) {
            Lasting x = new Lasting();
            Check.keep(x, row);
            int sum = 1 + row.length;
            for (int b : row) {
                sum += b;
            }
            Check.same("sum byte behind " + Check.row(row), x.journal(3 + row.length), sum % 256);
            Check.same("crash behind " + Check.row(row), x.crash(4 + row.length, -1), 4 + row.length);
        }
        Lasting x = new Lasting();
        x.learn(-1, -1);
        Check.same("sum byte of a key", x.journal(19), (4 + 16 + 16 * 255) % 256);
        Check.same("crash behind a key", x.crash(20, -1), 20);
        for (int tag = 0; tag < 8; tag++) {
            Lasting y = new Lasting();
            long digest = Check.keep(y, tag, 255);
            y.tell(tag, digest);
            y.untell(tag);
            int sum = 2 + 9 + tag;
            for (int b : Check.longBytes(digest)) {
                sum += b;
            }
            Check.same("sum byte of a tag", y.journal(6 + 12), sum % 256);
            Check.same("sum byte of a tag that tells none", y.journal(6 + 13 + 4), 3 + 1 + tag);
        }
    }

    private static void kinds() {
        Lasting x = new Lasting();
        long nothing = Check.keep(x);
        long most = Check.keep(x, Check.rowOf(64, 255, 0));
        x.tell(0, nothing);
        x.tell(7, most);
        x.untell(0);
        x.untell(7);
        for (int i = 0; i < LONGS.length; i++) {
            x.learn(LONGS[i], LONGS[LONGS.length - 1 - i]);
        }
        int[] due = Check.join(Check.record(1), Check.record(1, Check.rowOf(64, 255, 0)),
            Check.tellRecord(0, nothing), Check.tellRecord(7, most), Check.record(3, 0), Check.record(3, 7));
        for (int i = 0; i < LONGS.length; i++) {
            due = Check.join(due, Check.keyRecord(LONGS[i], LONGS[LONGS.length - 1 - i]));
        }
        Check.sameText("journal", Check.journal(x), Check.row(due));
        Lasting y = new Lasting();
        y.learn(0x0807060504030201L, 0x1817161514131211L);
        Check.sameText("a key's record", Check.journal(y), Check.row(4, 16, 0, 1, 2, 3, 4, 5, 6, 7, 8,
            0x11, 0x12, 0x13, 0x14, 0x15, 0x16, 0x17, 0x18, (4 + 16 + 36 + 36 + 8 * 16) % 256));
    }

    private static void oneForEach() {
        Lasting x = new Lasting();
        Check.type(x, 1);
        x.digest();
        x.pin(0, x.digest());
        x.sync();
        Check.same("bytes after what changes no blob, tag or key", x.count(2), 0);
        long one = x.keep();
        Check.same("bytes after keep()", x.count(2), 5);
        x.tell(0, one);
        Check.same("bytes after tell", x.count(2), 18);
        x.tell(1, one);
        Check.same("bytes after tell of another tag", x.count(2), 31);
        x.learn(1, one);
        Check.same("bytes after learn", x.count(2), 51);
        x.untell(0);
        Check.same("bytes after untell", x.count(2), 56);
        x.tell(0, one);
        Check.same("bytes after tell of what was untold", x.count(2), 69);
        x.learn(1, 0);
        x.learn(1, one);
        Check.same("bytes after learn there and back", x.count(2), 109);
        x.pin(0, 0);
        x.cut(0);
        Check.same("bytes after pin and cut", x.count(2), 109);
    }

    private static void notWrittenAgain() {
        Lasting x = new Lasting();
        Check.keep(x, Check.TWIN_ONE);
        Check.keep(x, Check.TWIN_TWO);
        long empty = Check.keep(x);
        x.keep();
        Check.same("bytes after blobs that are there", x.count(2), 24 + 4);
        Check.sameText("the first of the twins", Check.blob(x, Check.TWIN_DIGEST), Check.row(Check.TWIN_ONE));
        x.tell(0, empty);
        x.tell(0, empty);
        Check.same("bytes after what a tag tells already", x.count(2), 28 + 13);
        x.learn(0, 0);
        x.learn(0, 0);
        Check.same("bytes after what a key tells already", x.count(2), 41 + 20);
        Check.fill(x, 700);
        Check.keep(x, Check.TWIN_TWO);
        Check.keep(x);
        x.tell(0, empty);
        x.learn(0, 0);
        Check.same("bytes of a full journal", x.count(2), 700);
        x.crash(700, -1);
        Check.keep(x, Check.TWIN_TWO);
        x.tell(0, empty);
        x.learn(0, 0);
        Check.same("bytes after a crash", x.count(2), 700);
        x.pin(0, Check.TWIN_DIGEST);
        x.collect();
        int bytes = x.count(2);
        Check.keep(x, Check.TWIN_TWO);
        x.tell(0, empty);
        Check.same("bytes after a collection", x.count(2), bytes);
    }

    private static void synced() {
        Lasting x = new Lasting();
        Check.same("synced of a new object", x.count(3), 0);
        long one = Check.keep(x, 1);
        Check.keep(x, 2);
        Check.same("synced before sync()", x.count(3), 0);
        x.sync();
        Check.same("synced after sync()", x.count(3), 10);
        x.tell(0, one);
        Check.same("synced before another sync()", x.count(3), 10);
        x.sync();
        Check.same("synced after another sync()", x.count(3), 23);
        x.collect();
        Check.same("bytes of a shorter journal", x.count(2), 18);
        Check.same("synced after a collection", x.count(3), 18);
        Check.keep(x, 3);
        Check.same("synced still", x.count(3), 18);
        x.untell(0);
        x.collect();
        Check.same("synced when nothing is left", x.count(3), 0);
    }

    // A crash

    private static void crashLeaves() {
        for (int n : new int[] {0, 1, 4, 5, 9, 10}) {
            Lasting x = new Lasting();
            long one = Check.keep(x, 1);
            x.sync();
            Check.keep(x, 2);
            Check.keep(x, 3);
            Check.same("crash(" + n + ", -1)", x.crash(n, -1), 5 + n / 5 * 5);
            Check.same("what was synced", x.length(one), 1);
            Check.same("the second", x.length(Check.digestOf(2)), n >= 5 ? 1 : BlobJournal.NONE);
            Check.same("the third", x.length(Check.digestOf(3)), n >= 10 ? 1 : BlobJournal.NONE);
        }
    }

    private static void asRecordsSay() {
        Lasting x = new Lasting();
        long one = Check.keep(x, 1);
        long two = Check.keep(x, 2);
        x.tell(0, one);
        x.tell(7, one);
        x.learn(5, 6);
        x.sync();
        x.tell(0, two);
        x.untell(7);
        x.learn(5, 7);
        x.learn(6, 7);
        Check.type(x, 3);
        int[] ends = {0, 13, 18, 38, 58};
        for (int end : ends) {
            Lasting y = x.copy();
            Check.same("crash(" + end + ", -1)", y.crash(end, -1), 56 + end);
            Check.same("tag(0)", y.tag(0), end >= 13 ? two : one);
            Check.same("tag(7)", y.tag(7), end >= 18 ? 0 : one);
            Check.same("look(5)", y.look(5), end >= 38 ? 7 : 6);
            Check.same("keys", y.count(1), end >= 58 ? 2 : 1);
            Check.same("blobs", y.count(0), 2);
            Check.same("typed bytes stay", y.digest(), Check.digestOf(3));
        }
        Lasting none = new Lasting();
        none.tell(0, Check.keep(none, 1));
        none.learn(0, 0);
        Check.same("crash(0, 0)", none.crash(0, 0), 0);
        Lasting fresh = new Lasting();
        Check.type(fresh, 1);
        fresh.lookWhere(none);
        Check.sameText("all there is when no record says a thing", none.all(), fresh.all());
    }

    /** A blob of one byte is synced; behind it come a spoilt record and these bytes: how many of them stay. */
    private static int staysOf(int[] behind) {
        return staysOf(one(), behind);
    }

    private static int staysOf(Lasting x, int[] behind) {
        return Spoilt.crashInto(x, behind) - Spoilt.SIZE;
    }

    private static Lasting one() {
        Lasting x = new Lasting();
        Check.keep(x, 1);
        return x;
    }

    private static void stays(String what, int[] record) {
        Check.same(what + " " + Check.row(record), staysOf(record), record.length);
    }

    private static void goes(String what, int[] record) {
        Check.same(what + " " + Check.row(record), staysOf(record), 0);
    }

    private static void wholeRecords() {
        int[][] records = {Check.record(1), Check.record(1, 9), Check.tellRecord(7, Check.digestOf(1)),
            Check.record(3, 7), Check.keyRecord(5, 6)};
        for (int[] record : records) {
            Lasting x = one();
            x.sync();
            write(x, record);
            Check.same("bytes", x.count(2), 5 + 13 + record.length);
            for (int left = 0; left <= record.length; left++) {
                Lasting y = x.copy();
                int due = 5 + 13 + (left == record.length ? left : 0);
                Check.same(left + " bytes left of " + Check.row(record), y.crash(13 + left, -1), due);
            }
        }
        goes("one byte too few", new int[] {1, 1, 0});
        goes("far too few", new int[] {1, 255, 255, 255});
        goes("too few by 256", new int[] {1, 0, 1, 2});
        goes("a head alone", new int[] {1, 0});
        Lasting full = new Lasting();
        Check.fill(full, 700);
        Check.same("a record that ends with the journal", full.crash(700, -1), 700);
    }

    /** Writes just this record, by the call that writes its kind; behind one for tag 7, which an untell needs. */
    private static void write(Lasting x, int[] record) {
        boolean isTell = record[0] == 2;
        x.tell(isTell ? 0 : 7, Check.digestOf(1));
        if (record[0] == 1) {
            Check.keep(x, java.util.Arrays.copyOfRange(record, 3, record.length - 1));
        } else if (isTell) {
            x.tell(7, Check.digestOf(1));
        } else if (record[0] == 3) {
            x.untell(7);
        } else {
            x.learn(5, 6);
        }
    }

    private static void rightKind() {
        stays("kind 1", Check.record(1, 9));
        stays("kind 2", Check.tellRecord(0, Check.digestOf(1)));
        stays("kind 3", Check.record(3, 0));
        stays("kind 4", Check.keyRecord(1, 1));
        int[] bytes = Check.join(new int[] {0}, Check.longBytes(Check.digestOf(1)));
        for (int kind : new int[] {0, 5, 6, 127, 128, 254, 255}) {
            goes("another kind", Check.record(kind));
            goes("another kind", Check.record(kind, 0));
            goes("another kind", Check.record(kind, bytes));
            goes("another kind", Check.record(kind, Check.rowOf(16, 0, 0)));
        }
    }

    private static void rightLength() {
        int[] digest = Check.longBytes(Check.digestOf(1));
        int[] tell = Check.join(new int[] {0}, digest);
        int[] more = Check.join(tell, Check.rowOf(8, 0, 0));
        for (int length = 0; length <= 17; length++) {
            int[] bytes = java.util.Arrays.copyOf(more, length);
            Check.same("a tag of " + length, staysOf(Check.record(2, bytes)), length == 9 ? 13 : 0);
            Check.same("a tag that tells none of " + length, staysOf(Check.record(3, bytes)), length == 1 ? 5 : 0);
            Check.same("a key of " + length, staysOf(Check.record(4, bytes)), length == 16 ? 20 : 0);
            Check.same("a blob of " + length, staysOf(Check.record(1, bytes)), length + 4);
        }
        // So many that only the lower byte of the length is right.
        Check.same("a tag of 265", Spoilt.crashIntoKind(one(), 2, 256 + 9, tell), Spoilt.SIZE);
        Check.same("a tag that tells none of 257", Spoilt.crashIntoKind(one(), 3, 256 + 1, 0), Spoilt.SIZE);
        Check.same("a key of 272", Spoilt.crashIntoKind(one(), 4, 256 + 16), Spoilt.SIZE);
        for (int length : new int[] {59, 60, 64, 65, 66, 128, 254, 255, 256, 257, 494, 495}) {
            Check.same("a blob of " + length, Spoilt.crashIntoKind(one(), 1, length), Spoilt.SIZE + 4 + length);
        }
    }

    private static void rightSum() {
        int[][] records = {Check.record(1), Check.record(1, 255), Check.tellRecord(0, Check.digestOf(1)),
            Check.record(3, 7), Check.keyRecord(-1, -1)};
        for (int[] record : records) {
            stays("a right sum", record);
            int right = record[record.length - 1];
            for (int change : new int[] {1, 128, 255}) {
                int[] wrong = record.clone();
                wrong[wrong.length - 1] = (right + change) & 255;
                goes("a wrong sum", wrong);
            }
        }
    }

    private static void roomForBlob() {
        Lasting x = new Lasting();
        for (int i = 0; i < 13; i++) {
            Check.keep(x, i);
        }
        // The spoilt one is the 14th.
        int[] twenty = Check.join(Check.record(1, 13), Check.record(1, 14), Check.record(1, 15),
            Check.record(1, 16), Check.record(1, 17), Check.record(1, 18));
        int[] there = Check.join(Check.record(1, 0), Check.record(1, 18));
        Check.same("up to 20", staysOf(x.copy(), twenty), twenty.length);
        Check.same("blobs there already, when there are 20", staysOf(x.copy(), Check.join(twenty, there)),
            twenty.length + there.length);
        Check.same("nothing as the 21st", staysOf(x.copy(), Check.join(twenty, Check.record(1))), twenty.length);
        Check.same("the 21st", staysOf(x, Check.join(twenty, Check.record(1, 19), there)), twenty.length);
        Check.same("blobs", x.count(0), 20);
        Check.same("the 21st's length", x.length(Check.digestOf(19)), BlobJournal.NONE);
    }

    private static void roomForKey() {
        Lasting x = new Lasting();
        for (int i = 0; i < 15; i++) {
            x.learn(i, i);
        }
        int[] sixteen = Check.keyRecord(15, 15);
        Check.same("up to 16", staysOf(x.copy(), sixteen), 20);
        int[] there = Check.join(sixteen, Check.keyRecord(0, 7));
        Lasting y = x.copy();
        Check.same("a key there already, when there are 16", staysOf(y, there), 40);
        Check.same("look(0)", y.look(0), 7);
        Lasting z = x.copy();
        Check.same("the 17th", staysOf(z, Check.join(sixteen, Check.keyRecord(16, 1))), 20);
        Check.same("keys", z.count(1), 16);
        Check.fails("look(16)", z, Check.ELEMENT, () -> z.look(16));
    }

    private static void rightTag() {
        long digest = Check.digestOf(1);
        for (int tag = 0; tag < 8; tag++) {
            stays("tag " + tag, Check.tellRecord(tag, digest));
            stays("tag " + tag + " that tells none", Check.record(3, tag));
        }
        for (int tag : new int[] {8, 9, 16, 127, 128, 255}) {
            goes("tag " + tag, Check.tellRecord(tag, digest));
            goes("tag " + tag + " that tells none", Check.record(3, tag));
        }
    }

    private static void blobIsThere() {
        long there = Check.digestOf(1);
        long later = Check.digestOf(2);
        stays("a blob that is there", Check.tellRecord(0, there));
        goes("another digest", Check.tellRecord(0, there ^ (1L << 63)));
        goes("another digest", Check.tellRecord(0, there + 1));
        goes("0 without its blob", Check.tellRecord(0, 0));
        int[] before = Check.join(Check.tellRecord(0, later), Check.record(1, 2));
        Check.same("a blob that comes later", staysOf(before), 0);
        int[] after = Check.join(Check.record(1, 2), Check.tellRecord(0, later));
        Check.same("a blob that came before", staysOf(after), after.length);
        goes("a blob that is only in the bytes of another", Check.tellRecord(0, Check.digestOf(102)));
        Lasting zero = new Lasting();
        Check.keep(zero, Check.DIGEST_ZERO);
        Check.same("0 with its blob", staysOf(zero, Check.tellRecord(0, 0)), 13);
        zero.untell(0);
        Check.same("tag(0)", zero.tag(0), 0);
        Lasting none = new Lasting();
        Check.same("a key without a blob", staysOf(none, Check.keyRecord(1, 5)), 20);
    }

    private static void restGoes() {
        Lasting x = one();
        x.tell(0, Check.digestOf(1));
        int[] right = Check.keyRecord(1, 1);
        int[] rest = Check.join(Check.record(3, 8), Check.record(3, 0), Check.keyRecord(1, 2));
        Check.same("what is right behind what is wrong", staysOf(x, Check.join(right, rest)), right.length);
        int bytes = 18 + Spoilt.SIZE + right.length;
        Check.same("bytes", x.count(2), bytes);
        Check.same("synced", x.count(3), bytes);
        Check.same("tag(0)", x.tag(0), Check.digestOf(1));
        Check.same("look(1)", x.look(1), 1);
        Check.fails("a byte that went", x, Check.INDEX, () -> x.journal(bytes));
        Check.fails("crash(1, 0) when all is synced", x, Check.ARGUMENT, () -> x.crash(1, 0));
        Check.keep(x, 7);
        Check.same("a byte written in its place", x.journal(bytes + 3), 7);
        Check.same("bytes then", x.count(2), bytes + 5);
        Check.same("synced then", x.count(3), bytes);
    }

    // A collection

    private static void collectionOfBlobs() {
        Lasting x = new Lasting();
        for (int i = 0; i < 6; i++) {
            Check.keep(x, i);
        }
        x.tell(0, Check.digestOf(0));
        x.tell(1, Check.digestOf(1));
        x.tell(7, Check.digestOf(1));
        x.untell(1);
        x.pin(0, Check.digestOf(0));
        x.pin(3, Check.digestOf(2));
        x.tell(2, Check.digestOf(3));
        x.tell(2, Check.digestOf(5));
        x.learn(1, Check.digestOf(4));
        Check.same("collect()", x.collect(), 2);
        for (int i = 0; i < 6; i++) {
            boolean goes = i == 3 || i == 4;
            Check.same("length of " + i, x.length(Check.digestOf(i)), goes ? BlobJournal.NONE : 1);
        }
        Lasting all = new Lasting();
        for (int i = 0; i < 12; i++) {
            long digest = Check.keep(all, i);
            if (i < 8) {
                all.tell(i, digest);
            } else {
                all.pin(i - 8, digest);
            }
        }
        Check.same("collect() when all are told", all.collect(), 0);
        Check.same("blobs", all.count(0), 12);
    }

    private static void collectionOfKeys() {
        Lasting x = new Lasting();
        long kept = Check.keep(x, 1);
        long gone = Check.keep(x, 2);
        long pinned = Check.keep(x, 3);
        x.tell(7, kept);
        x.pin(3, pinned);
        x.pin(0, 12345);
        long[] digests = {kept, gone, pinned, 0, 12345, kept + 1};
        for (int i = 0; i < 6; i++) {
            x.learn(i, digests[i]);
        }
        Check.same("collect()", x.collect(), 1);
        Check.same("keys", x.count(1), 2);
        Check.same("look(0)", x.look(0), kept);
        Check.same("look(2)", x.look(2), pinned);
        for (int i : new int[] {1, 3, 4, 5}) {
            Check.fails("look(" + i + ")", x, Check.ELEMENT, () -> x.look(i));
        }
        Lasting y = one();
        y.pin(0, Check.digestOf(1));
        for (int i = 0; i < 16; i++) {
            y.learn(i, Check.digestOf(1));
        }
        y.collect();
        Check.same("keys when all 16 stay", y.count(1), 16);
        y.pin(0, 0);
        y.collect();
        Check.same("keys when none stays", y.count(1), 0);
    }

    private static void writtenAnew() {
        Lasting x = new Lasting();
        for (int i = 0; i < 4; i++) {
            Check.keep(x, i);
        }
        x.learn(9, Check.digestOf(3));
        x.learn(1, Check.digestOf(0));
        x.tell(7, Check.digestOf(0));
        x.tell(0, Check.digestOf(3));
        x.learn(9, Check.digestOf(0));
        x.pin(0, Check.digestOf(2));
        x.collect();
        int[] due = Check.join(Check.record(1, 0), Check.record(1, 2), Check.record(1, 3),
            Check.tellRecord(0, Check.digestOf(3)), Check.tellRecord(7, Check.digestOf(0)),
            Check.keyRecord(9, Check.digestOf(0)), Check.keyRecord(1, Check.digestOf(0)));
        Check.sameText("journal", Check.journal(x), Check.row(due));
        Check.same("synced", x.count(3), due.length);
        x.pin(1, Check.keep(x, 1));
        x.collect();
        Check.sameText("a blob that came again comes last", Check.journal(x).substring(0, 60), Check.row(Check.join(
            Check.record(1, 0), Check.record(1, 2), Check.record(1, 3), Check.record(1, 1), due)).substring(0, 60));
        Lasting none = one();
        none.collect();
        Check.same("bytes when nothing is left", none.count(2) + none.count(3), 0);
        fullStaysFull();
    }

    /** A journal of 700 bytes in which nothing is too much comes out of a collection as it was. */
    private static void fullStaysFull() {
        Lasting x = new Lasting();
        for (int i = 0; i < 8; i++) {
            Check.keep(x, Check.rowOf(i < 4 ? 30 : 31, i, 50));
        }
        Check.same("bytes of blobs", x.count(2), 8 * 34 + 4);
        for (int tag = 0; tag < 8; tag++) {
            x.tell(tag, Check.digestOf(Check.rowOf(tag < 4 ? 30 : 31, tag, 50)));
        }
        for (int i = 0; i < 16; i++) {
            x.learn(i, x.tag(i % 8));
        }
        Check.same("bytes", x.count(2), 700);
        x.sync();
        String before = x.seen();
        Check.same("collect()", x.collect(), 0);
        Check.sameText("all that is seen", x.seen(), before);
    }

    private static void fourPins() {
        Lasting x = new Lasting();
        for (int pin = 0; pin < 4; pin++) {
            x.pin(pin, Check.keep(x, pin));
        }
        Check.keep(x, 4);
        Check.same("collect() with four pins", x.copy().collect(), 1);
        for (int pin = 0; pin < 4; pin++) {
            Lasting y = x.copy();
            y.pin(pin, 0);
            Check.same("collect() with pin " + pin + " told none", y.collect(), 2);
            Check.same("what it told", y.length(Check.digestOf(pin)), BlobJournal.NONE);
        }
        for (int pin : new int[] {-1, 4}) {
            Check.fails("pin(" + pin + ")", x, Check.ARGUMENT, () -> x.pin(pin, Check.digestOf(4)));
        }
        x.collect();
        Check.same("collect() with the pins still there", x.collect(), 0);
    }

    private static void pinsGo() {
        Lasting x = one();
        x.sync();
        for (int pin = 0; pin < 4; pin++) {
            x.pin(pin, Check.digestOf(1));
        }
        Check.same("bytes", x.count(2), 5);
        Check.fails("a crash that is refused", x, Check.ARGUMENT, () -> x.crash(1, 0));
        Check.same("collect() then", x.copy().collect(), 0);
        Check.same("crash(0, 0)", x.crash(0, 0), 5);
        Check.same("collect() after a crash", x.collect(), 1);
    }

    // What throws

    /** One at its limits: 64 bytes typed, 20 blobs, 16 keys, four pins and 699 bytes, 100 of them synced. */
    private static Lasting atItsLimits() {
        Lasting x = new Lasting();
        for (int i = 0; i < 20; i++) {
            Check.keep(x, i);
        }
        x.sync();
        for (int i = 0; i < 16; i++) {
            x.learn(i, Check.digestOf(i));
        }
        for (int tag = 0; tag < 8; tag++) {
            x.tell(tag, Check.digestOf(tag));
        }
        for (int i = 0; i < 8; i++) {
            x.learn(3, i);
        }
        for (int tag = 5; tag < 8; tag++) {
            x.untell(tag);
        }
        for (int pin = 0; pin < 4; pin++) {
            x.pin(pin, Check.digestOf(10 + pin));
        }
        Check.type(x, Check.rowOf(64, 1, 2));
        Check.same("bytes", x.count(2), 699);
        return x;
    }

    private static void throwsChangeNothing() {
        Lasting x = atItsLimits();
        long there = Check.digestOf(19);
        Check.fails("type", x, Check.UNSUPPORTED, () -> x.type(-1));
        Check.fails("keep", x, Check.UNSUPPORTED, () -> x.keep());
        Check.fails("tell", x, Check.UNSUPPORTED, () -> x.tell(0, there));
        Check.fails("tell of a tag that tells none", x, Check.UNSUPPORTED, () -> x.tell(7, there));
        Check.fails("untell", x, Check.UNSUPPORTED, () -> x.untell(0));
        Check.fails("learn of a new key", x, Check.UNSUPPORTED, () -> x.learn(99, there));
        Check.fails("learn", x, Check.UNSUPPORTED, () -> x.learn(0, there));
        for (int wrong : new int[] {-1, 65, LEAST, MOST}) {
            Check.fails("cut", x, Check.ARGUMENT, () -> x.cut(wrong));
            Check.fails("tell", x, Check.ARGUMENT, () -> x.tell(wrong, there));
            Check.fails("untell", x, Check.ARGUMENT, () -> x.untell(wrong));
            Check.fails("pin", x, Check.ARGUMENT, () -> x.pin(wrong, there));
            Check.fails("tag", x, Check.ARGUMENT, () -> x.tag(wrong));
            Check.fails("count", x, Check.ARGUMENT, () -> x.count(wrong));
        }
        for (int wrong : new int[] {-1, 600, LEAST, MOST}) {
            Check.fails("crash", x, Check.ARGUMENT, () -> x.crash(wrong, 0));
        }
        for (int wrong : new int[] {-1, 699, LEAST, MOST}) {
            Check.fails("journal", x, Check.INDEX, () -> x.journal(wrong));
            Check.fails("byteOf", x, Check.INDEX, () -> x.byteOf(there, wrong));
            Check.fails("byteOf none such", x, Check.ELEMENT, () -> x.byteOf(5, wrong));
        }
        Check.fails("tell of none such", x, Check.ELEMENT, () -> x.tell(0, 5));
        Check.fails("untell of a tag that tells none", x, Check.ELEMENT, () -> x.untell(7));
        Check.fails("look", x, Check.ELEMENT, () -> x.look(99));
        Lasting untouched = atItsLimits();
        untouched.lookWhere(x);
        Check.sameText("all there is", x.all(), untouched.all());
    }
}
