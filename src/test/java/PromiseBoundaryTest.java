/** The boundary cases of the promises 1 to 18: a test of its own for each sentence. */
public final class PromiseBoundaryTest {
    private static final int LEAST = Integer.MIN_VALUE;
    private static final int MOST = Integer.MAX_VALUE;
    /** 256 and its like would be right if only their lowest byte were looked at. */
    private static final int[] NO_TAGS = {-1, 8, 9, 255, 256, 263, -8, -256, LEAST, MOST};
    private static final int[] NO_PINS = {-1, 4, 5, 255, 256, -4, LEAST, MOST};

    public static void main(String[] args) {
        Check.sentence("1: Nothing is there; no bytes are typed.", () -> newObject());
        Check.sentence("2: Four more bytes are typed, the lowest first: how many there are.", () -> type());
        Check.sentence("2: UnsupportedOperationException if there would be more than 64.", () -> typeTooMany());
        Check.sentence("3: The first n bytes are typed.", () -> cut());
        Check.sentence("3: IllegalArgumentException if n is below 0 or above how many there are.",
            () -> cutWrong());
        Check.sentence("4: The digest of what is typed.", () -> digest());
        Check.sentence("5: Keeps what is typed as a blob: its digest.", () -> keep());
        Check.sentence("5: UnsupportedOperationException if it is new and there are 20,", () -> keepThe21st());
        Check.sentence("5: or there is no room in the journal.", () -> keepWithoutRoom());
        Check.sentence("6: A tag tells a digest.", () -> tell());
        Check.sentence("6: IllegalArgumentException if there is no such tag;", () -> tellNoTag());
        Check.sentence("6: NoSuchElementException if there is no such blob;", () -> tellNoBlob());
        Check.sentence("6: UnsupportedOperationException if there is no room in the journal.",
            () -> tellWithoutRoom());
        Check.sentence("7: A tag tells none.", () -> untell());
        Check.sentence("7: IllegalArgumentException if there is no such tag;", () -> untellNoTag());
        Check.sentence("7: NoSuchElementException if it does already;", () -> untellAlready());
        Check.sentence("7: UnsupportedOperationException if there is no room in the journal.",
            () -> untellWithoutRoom());
        Check.sentence("8: A key tells a digest.", () -> learn());
        Check.sentence("8: UnsupportedOperationException if it is new and there are 16,", () -> learnThe17th());
        Check.sentence("8: or there is no room in the journal.", () -> learnWithoutRoom());
        Check.sentence("9: A pin tells a digest; told 0, none.", () -> pin());
        Check.sentence("9: IllegalArgumentException if there is no such pin.", () -> pinWrong());
        Check.sentence("10: What a tag tells; 0 if none.", () -> tag());
        Check.sentence("10: IllegalArgumentException if there is no such tag.", () -> tagWrong());
        Check.sentence("11: What a key tells.", () -> look());
        Check.sentence("11: NoSuchElementException if there is no such key.", () -> lookAtNone());
        Check.sentence("12: How many bytes a blob has;", () -> length());
        Check.sentence("12: NONE if there is none such.", () -> lengthOfNone());
        Check.sentence("13: Byte k of a blob.", () -> byteOf());
        Check.sentence("13: NoSuchElementException if there is none such;", () -> byteOfNoBlob());
        Check.sentence("13: IndexOutOfBoundsException if there is no such byte.", () -> byteOfNoByte());
        Check.sentence("14: 0 how many blobs, 1 keys, 2 bytes of the journal, 3 of these are synced.",
            () -> count());
        Check.sentence("14: IllegalArgumentException for another what.", () -> countWrong());
        Check.sentence("15: Byte k of the journal.", () -> journal());
        Check.sentence("15: IndexOutOfBoundsException if there is none such.", () -> journalWrong());
        Check.sentence("16: All of the journal is synced.", () -> sync());
        Check.sentence("17: A crash; n bytes behind the synced ones are left .. how many bytes the journal has then.",
            () -> crashLeaves());
        Check.sentence("17: byte spoilt of these (from 0 on) turned in all its bits", () -> crashSpoils());
        Check.sentence("17: (none if there is no such)", () -> crashSpoilsNone());
        Check.sentence("17: IllegalArgumentException if n is below 0 or above how many there are.",
            () -> crashWrong());
        Check.sentence("18: Collects: how many blobs went.", () -> collect());
        Check.end();
    }

    private static void counts(Lasting x, int blobs, int keys, int bytes, int synced) {
        Check.same("count(0)", x.count(0), blobs);
        Check.same("count(1)", x.count(1), keys);
        Check.same("count(2)", x.count(2), bytes);
        Check.same("count(3)", x.count(3), synced);
    }

    /** One with 20 blobs of one byte each, 0 to 19. */
    private static Lasting withTwentyBlobs() {
        Lasting x = new Lasting();
        for (int i = 0; i < 20; i++) {
            Check.keep(x, i);
        }
        return x;
    }

    /** One with 16 keys, 0 to 15, that tell 100 to 115. */
    private static Lasting withSixteenKeys() {
        Lasting x = new Lasting();
        for (int i = 0; i < 16; i++) {
            x.learn(i, 100 + i);
        }
        return x;
    }

    // 1 to 4

    private static void newObject() {
        Lasting x = new Lasting();
        Lasting other = new Lasting();
        other.tell(0, Check.keep(other, 1, 2, 3));
        other.learn(0, 0);
        other.sync();
        counts(x, 0, 0, 0, 0);
        for (int tag = 0; tag < 8; tag++) {
            int t = tag;
            Check.same("tag(" + tag + ")", x.tag(tag), 0);
            Check.fails("untell(" + tag + ")", x, Check.ELEMENT, () -> x.untell(t));
        }
        for (long key : new long[] {0, 1, -1, Long.MIN_VALUE, Long.MAX_VALUE}) {
            Check.fails("look(" + key + ")", x, Check.ELEMENT, () -> x.look(key));
            Check.same("length(" + key + ")", x.length(key), BlobJournal.NONE);
        }
        Check.same("digest()", x.digest(), Check.digestOf());
        Check.same("length of nothing, not kept", x.length(x.digest()), BlobJournal.NONE);
        Check.fails("byteOf", x, Check.ELEMENT, () -> x.byteOf(x.digest(), 0));
        Check.fails("journal(0)", x, Check.INDEX, () -> x.journal(0));
        Check.fails("cut(1)", x, Check.ARGUMENT, () -> x.cut(1));
        Check.fails("crash(1, 0)", x, Check.ARGUMENT, () -> x.crash(1, 0));
        x.cut(0);
        x.sync();
        Check.same("crash(0, 0)", x.crash(0, 0), 0);
        Check.same("collect()", x.collect(), 0);
        counts(x, 0, 0, 0, 0);
        Check.same("type(0)", x.type(0), 4);
        Lasting y = new Lasting();
        y.keep();
        Check.same("collect() where no pin was told", y.collect(), 1);
    }

    private static void type() {
        int[] words = {0, -1, LEAST, MOST, 1, 255, 256, 0xFF000000, 0x80, 0x8000, 0x800000, 0x04030201};
        for (int word : words) {
            Lasting x = new Lasting();
            Check.same("type(" + word + ")", x.type(word), 4);
            int[] due = {word & 255, (word >> 8) & 255, (word >> 16) & 255, (word >> 24) & 255};
            Check.sameText("bytes of " + word, Check.blob(x, x.keep()), Check.row(due));
        }
        for (int before = 0; before <= 60; before++) {
            Lasting x = new Lasting();
            int[] bytes = Check.rowOf(before, 9, 8);
            Check.type(x, bytes);
            Check.same("type behind " + before, x.type(0x04030201), before + 4);
            Check.sameText("bytes behind " + before, Check.blob(x, x.keep()),
                Check.row(Check.join(bytes, new int[] {1, 2, 3, 4})));
        }
    }

    private static void typeTooMany() {
        for (int before = 61; before <= 64; before++) {
            Lasting x = new Lasting();
            Check.type(x, Check.rowOf(before, 9, 8));
            for (int word : new int[] {0, -1, LEAST, MOST}) {
                Check.fails("type(" + word + ") behind " + before, x, Check.UNSUPPORTED, () -> x.type(word));
            }
            Check.sameText("typed still", Check.blob(x, x.keep()), Check.row(Check.rowOf(before, 9, 8)));
            x.cut(60);
            Check.same("type behind 60", x.type(1), 64);
        }
    }

    private static void cut() {
        for (int before : new int[] {0, 1, 4, 63, 64}) {
            for (int n : new int[] {0, 1, 3, 62, before - 1, before}) {
                if (n < 0 || n > before) {
                    continue;
                }
                Lasting x = new Lasting();
                Check.type(x, Check.rowOf(before, 9, 8));
                x.cut(n);
                Check.same("digest() of the first " + n + " of " + before,
                    x.digest(), Check.digestOf(Check.rowOf(n, 9, 8)));
                Check.fails("cut above the first " + n, x, Check.ARGUMENT, () -> x.cut(n + 1));
            }
        }
        Lasting x = new Lasting();
        Check.type(x, Check.rowOf(64, 9, 8));
        x.cut(0);
        x.type(0);
        Check.sameText("what was cut stays away", Check.blob(x, x.keep()), Check.row(0, 0, 0, 0));
    }

    private static void cutWrong() {
        for (int before : new int[] {0, 1, 4, 60, 64}) {
            Lasting x = new Lasting();
            Check.type(x, Check.rowOf(before, 9, 8));
            for (int n : new int[] {-1, LEAST, before + 1, 65, MOST, -before - 1}) {
                Check.fails("cut(" + n + ") of " + before, x, Check.ARGUMENT, () -> x.cut(n));
            }
        }
    }

    private static void digest() {
        Lasting x = new Lasting();
        Check.same("digest() of nothing", x.digest(), 8537760154312528559L);
        Check.type(x, 1, 2, 3);
        Check.same("digest() of 1 2 3", x.digest(), -6188227466131721585L);
        for (int length : new int[] {1, 2, 63, 64}) {
            for (int b : new int[] {0, 1, 127, 128, 255}) {
                int[] bytes = Check.rowOf(length, b, b);
                Check.type(x, bytes);
                Check.same("digest() of " + length + " times " + b, x.digest(), Check.digestOf(bytes));
            }
        }
        long full = x.digest();
        Check.fails("type", x, Check.UNSUPPORTED, () -> x.type(1));
        Check.fails("cut", x, Check.ARGUMENT, () -> x.cut(65));
        Check.same("digest() after refused calls", x.digest(), full);
        x.crash(0, 0);
        x.collect();
        Check.same("digest() after a crash and a collection", x.digest(), full);
    }

    // 5

    private static void keep() {
        for (int length : new int[] {0, 1, 4, 63, 64}) {
            Lasting x = new Lasting();
            int[] bytes = Check.rowOf(length, 255, 128);
            Check.same("keep() of " + length, Check.keep(x, bytes), Check.digestOf(bytes));
            Check.same("length", x.length(x.digest()), length);
            Check.sameText("bytes", Check.blob(x, x.digest()), Check.row(bytes));
            Check.sameText("journal", Check.journal(x), Check.row(Check.record(1, bytes)));
            Check.same("digest() still", x.digest(), Check.digestOf(bytes));
            Check.same("keep() again", x.keep(), Check.digestOf(bytes));
            counts(x, 1, 0, length + 4, 0);
        }
    }

    private static void keepThe21st() {
        Lasting x = withTwentyBlobs();
        counts(x, 20, 0, 100, 0);
        Check.type(x, 20);
        Check.fails("keep() of the 21st", x, Check.UNSUPPORTED, () -> x.keep());
        x.cut(0);
        Check.fails("keep() of nothing as the 21st", x, Check.UNSUPPORTED, () -> x.keep());
        Check.same("keep() of the first again", Check.keep(x, 0), Check.digestOf(0));
        Check.same("keep() of the last again", Check.keep(x, 19), Check.digestOf(19));
        counts(x, 20, 0, 100, 0);
        x.pin(0, Check.digestOf(0));
        x.collect();
        Check.same("keep() with room again", Check.keep(x, 20), Check.digestOf(20));
        Lasting y = new Lasting();
        for (int i = 0; i < 19; i++) {
            Check.keep(y, i);
        }
        Check.keep(y, Check.TWIN_ONE);
        Check.same("keep() of a twin when there are 20", Check.keep(y, Check.TWIN_TWO), Check.TWIN_DIGEST);
        Lasting z = withTwentyBlobs();
        Check.fillByKey(z, 1);
        Check.type(z, 20);
        Check.fails("keep() with 20 and without room", z, Check.UNSUPPORTED, () -> z.keep());
        Check.same("keep() of one that is there", Check.keep(z, 7), Check.digestOf(7));
    }

    private static void keepWithoutRoom() {
        for (int length : new int[] {0, 1, 2, 63, 64}) {
            int[] bytes = Check.rowOf(length, 255, 128);
            Lasting x = new Lasting();
            Check.fill(x, 700 - length - 4);
            Check.same("keep() that fills the journal", Check.keep(x, bytes), Check.digestOf(bytes));
            Check.same("bytes of the journal", x.count(2), 700);
            Check.same("the last byte", x.journal(699), Check.record(1, bytes)[length + 3]);
            Check.same("keep() of one that is there", x.keep(), Check.digestOf(bytes));
            Check.type(x, 1, 2, 3);
            Check.fails("keep() in a full journal", x, Check.UNSUPPORTED, () -> x.keep());
            Lasting y = new Lasting();
            Check.fill(y, 700 - length - 3);
            Check.type(y, bytes);
            Check.fails("keep() of 701 bytes", y, Check.UNSUPPORTED, () -> y.keep());
            y.pin(0, Check.digestOf(bytes));
            y.collect();
            Check.same("keep() after a collection", y.keep(), Check.digestOf(bytes));
        }
    }

    // 6 and 7

    private static void tell() {
        Lasting x = new Lasting();
        long empty = Check.keep(x);
        long most = Check.keep(x, Check.rowOf(64, 255, 255));
        x.tell(0, empty);
        x.tell(7, most);
        Check.same("tag(0)", x.tag(0), empty);
        Check.same("tag(1)", x.tag(1), 0);
        Check.same("tag(6)", x.tag(6), 0);
        Check.same("tag(7)", x.tag(7), most);
        x.tell(0, most);
        Check.same("tag(0) told anew", x.tag(0), most);
        Check.sameText("journal", Check.journal(x), Check.row(Check.join(Check.record(1),
            Check.record(1, Check.rowOf(64, 255, 255)), Check.tellRecord(0, empty),
            Check.tellRecord(7, most), Check.tellRecord(0, most))));
    }

    private static void tellNoTag() {
        Lasting x = new Lasting();
        long one = Check.keep(x, 1);
        Lasting full = x.copy();
        Check.fill(full, 700);
        for (int tag : NO_TAGS) {
            Check.fails("tell(" + tag + ", one)", x, Check.ARGUMENT, () -> x.tell(tag, one));
            Check.fails("tell(" + tag + ", none such)", x, Check.ARGUMENT, () -> x.tell(tag, 5));
            Check.fails("tell(" + tag + ", one) without room", full, Check.ARGUMENT, () -> full.tell(tag, one));
            Check.fails("tell(" + tag + ", none such) without room", full, Check.ARGUMENT,
                () -> full.tell(tag, 5));
        }
    }

    private static void tellNoBlob() {
        Lasting x = new Lasting();
        long one = Check.keep(x, 1);
        x.learn(5, 6);
        x.pin(0, 7);
        Check.type(x, 2);
        long[] none = {0, 1, -1, 5, 6, 7, one + 1, one ^ (1L << 63), (int) one, ~one, x.digest(),
            Long.MIN_VALUE, Long.MAX_VALUE};
        for (long digest : none) {
            Check.fails("tell(0, " + digest + ")", x, Check.ELEMENT, () -> x.tell(0, digest));
        }
        Lasting full = x.copy();
        Check.fill(full, 700);
        Check.fails("tell of none such without room", full, Check.ELEMENT, () -> full.tell(7, 5));
        Lasting collected = x.copy();
        collected.collect();
        Check.fails("tell of one that went", collected, Check.ELEMENT, () -> collected.tell(0, one));
        Lasting crashed = x.copy();
        crashed.crash(4, -1);
        Check.fails("tell of one that a crash took", crashed, Check.ELEMENT, () -> crashed.tell(0, one));
    }

    private static void tellWithoutRoom() {
        Lasting x = new Lasting();
        long one = Check.keep(x, 1);
        long two = Check.keep(x, 2);
        Lasting y = x.copy();
        x.tell(1, two);
        Check.fill(x, 700 - 13);
        x.tell(0, one);
        Check.same("bytes that tell fills", x.count(2), 700);
        Check.same("tag(0)", x.tag(0), one);
        Check.fails("tell in a full journal", x, Check.UNSUPPORTED, () -> x.tell(7, one));
        Check.fails("tell anew in a full journal", x, Check.UNSUPPORTED, () -> x.tell(1, one));
        x.tell(0, one);
        x.tell(1, two);
        Check.same("bytes after what was told already", x.count(2), 700);
        Check.fill(y, 700 - 12);
        Check.fails("tell of 701 bytes", y, Check.UNSUPPORTED, () -> y.tell(0, one));
    }

    private static void untell() {
        Lasting x = new Lasting();
        long one = Check.keep(x, 1);
        for (int tag = 0; tag < 8; tag++) {
            x.tell(tag, one);
        }
        x.untell(0);
        x.untell(7);
        for (int tag = 0; tag < 8; tag++) {
            Check.same("tag(" + tag + ")", x.tag(tag), tag == 0 || tag == 7 ? 0 : one);
        }
        int bytes = x.count(2);
        Check.same("bytes", bytes, 5 + 8 * 13 + 2 * 5);
        int[] due = Check.join(Check.record(3, 0), Check.record(3, 7));
        for (int i = 0; i < due.length; i++) {
            Check.same("byte " + i + " of both", x.journal(bytes - due.length + i), due[i]);
        }
        Check.same("the blob stays", x.length(one), 1);
    }

    private static void untellNoTag() {
        Lasting x = new Lasting();
        long one = Check.keep(x, 1);
        x.tell(0, one);
        x.tell(7, one);
        Lasting full = x.copy();
        Check.fill(full, 700);
        for (int tag : NO_TAGS) {
            Check.fails("untell(" + tag + ")", x, Check.ARGUMENT, () -> x.untell(tag));
            Check.fails("untell(" + tag + ") without room", full, Check.ARGUMENT, () -> full.untell(tag));
        }
    }

    private static void untellAlready() {
        Lasting x = new Lasting();
        Check.fails("untell of one never told", x, Check.ELEMENT, () -> x.untell(0));
        long one = Check.keep(x, 1);
        x.tell(7, one);
        x.untell(7);
        Check.fails("untell again", x, Check.ELEMENT, () -> x.untell(7));
        x.collect();
        Check.fails("untell after a collection", x, Check.ELEMENT, () -> x.untell(7));
        Check.keep(x, 1);
        x.tell(3, one);
        x.crash(5, -1);
        Check.fails("untell of one that a crash took", x, Check.ELEMENT, () -> x.untell(3));
        Check.fill(x, 700);
        Check.fails("untell without room", x, Check.ELEMENT, () -> x.untell(3));
    }

    private static void untellWithoutRoom() {
        Lasting x = new Lasting();
        long one = Check.keep(x, 1);
        x.tell(0, one);
        x.tell(7, one);
        Lasting y = x.copy();
        Check.fill(x, 700 - 5);
        x.untell(7);
        Check.same("bytes that untell fills", x.count(2), 700);
        Check.same("tag(7)", x.tag(7), 0);
        Check.fails("untell in a full journal", x, Check.UNSUPPORTED, () -> x.untell(0));
        Check.fill(y, 700 - 4);
        Check.fails("untell of 701 bytes", y, Check.UNSUPPORTED, () -> y.untell(7));
    }

    // 8 to 11

    private static void learn() {
        long[] longs = {0, 1, -1, Long.MIN_VALUE, Long.MAX_VALUE, 1L << 32, 255, 256, 0x8070605040302010L};
        for (long key : longs) {
            for (long digest : longs) {
                Lasting x = new Lasting();
                x.learn(key, digest);
                Check.same("look(" + key + ")", x.look(key), digest);
                Check.sameText("journal", Check.journal(x), Check.row(Check.keyRecord(key, digest)));
                Check.same("keys", x.count(1), 1);
            }
        }
        Lasting all = new Lasting();
        for (long key : longs) {
            all.learn(key, ~key);
        }
        for (long key : longs) {
            Check.same("look(" + key + ") among others", all.look(key), ~key);
        }
        Check.same("keys", all.count(1), longs.length);
    }

    private static void learnThe17th() {
        Lasting x = withSixteenKeys();
        counts(x, 0, 16, 320, 0);
        for (long key : new long[] {16, -1, 100, 1L << 32, Long.MIN_VALUE, Long.MAX_VALUE}) {
            Check.fails("learn(" + key + ", 1)", x, Check.UNSUPPORTED, () -> x.learn(key, 1));
            Check.fails("look(" + key + ")", x, Check.ELEMENT, () -> x.look(key));
        }
        x.learn(0, 100);
        x.learn(15, 115);
        counts(x, 0, 16, 320, 0);
        x.learn(0, 1);
        x.learn(15, 2);
        counts(x, 0, 16, 360, 0);
        Check.same("look(0)", x.look(0), 1);
        Check.same("look(15)", x.look(15), 2);
        x.collect();
        x.learn(16, 1);
        Check.same("look(16) with room again", x.look(16), 1);
    }

    private static void learnWithoutRoom() {
        Lasting x = new Lasting();
        x.learn(1, 11);
        Lasting y = x.copy();
        Lasting z = x.copy();
        Check.fill(x, 700 - 20);
        x.learn(2, 22);
        Check.same("bytes that a new key fills", x.count(2), 700);
        Check.fails("learn of a new one in a full journal", x, Check.UNSUPPORTED, () -> x.learn(3, 1));
        Check.fails("learn anew in a full journal", x, Check.UNSUPPORTED, () -> x.learn(1, 1));
        x.learn(1, 11);
        x.learn(2, 22);
        Check.same("bytes after what was told already", x.count(2), 700);
        Check.fill(y, 700 - 20);
        y.learn(1, 12);
        Check.same("bytes that a key told anew fills", y.count(2), 700);
        Check.fill(z, 700 - 19);
        Check.fails("learn of a new one, 701 bytes", z, Check.UNSUPPORTED, () -> z.learn(2, 22));
        Check.fails("learn anew, 701 bytes", z, Check.UNSUPPORTED, () -> z.learn(1, 12));
        Lasting full = withSixteenKeys();
        Check.fillByKey(full, 0);
        Check.fails("learn with 16 and without room", full, Check.UNSUPPORTED, () -> full.learn(99, 1));
    }

    private static void pin() {
        Lasting x = new Lasting();
        long empty = Check.keep(x);
        long one = Check.keep(x, 1);
        x.pin(0, empty);
        x.pin(3, one);
        Check.same("collect() with pins 0 and 3", x.copy().collect(), 0);
        Lasting anew = x.copy();
        anew.pin(0, one);
        Check.same("collect() with pin 0 told anew", anew.collect(), 1);
        Check.same("which one went", anew.length(empty), BlobJournal.NONE);
        Lasting none = x.copy();
        none.pin(3, 0);
        Check.same("collect() with pin 3 told 0", none.collect(), 1);
        Check.same("which one went then", none.length(one), BlobJournal.NONE);
        Lasting two = x.copy();
        two.pin(1, one);
        two.pin(3, 0);
        Check.same("collect() with another pin on it", two.collect(), 0);
        two.pin(2, 0);
        two.pin(0, 12345);
        Check.same("collect() with a pin on none such", two.collect(), 1);
        Check.fill(x, 700);
        x.pin(1, Check.keep(x, 1));
        Check.same("pins need no room", x.count(2), 700);
        for (long digest : new long[] {Long.MIN_VALUE, Long.MAX_VALUE, -1, 1}) {
            x.pin(2, digest);
            Check.same("pins need no blob", x.length(digest), BlobJournal.NONE);
        }
    }

    private static void pinWrong() {
        Lasting x = new Lasting();
        long one = Check.keep(x, 1);
        long two = Check.keep(x, 2);
        x.pin(0, one);
        x.pin(3, one);
        for (int pin : NO_PINS) {
            Check.fails("pin(" + pin + ", two)", x, Check.ARGUMENT, () -> x.pin(pin, two));
            Check.fails("pin(" + pin + ", 0)", x, Check.ARGUMENT, () -> x.pin(pin, 0));
        }
        Check.same("collect()", x.collect(), 1);
        Check.same("what the pins tell stays", x.length(one), 1);
    }

    private static void tag() {
        Lasting x = new Lasting();
        Check.same("tag(7) of a new object", x.tag(7), 0);
        long one = Check.keep(x, 1);
        x.tell(7, one);
        Check.same("tag(7) told", x.tag(7), one);
        Check.same("tag(6), told none", x.tag(6), 0);
        x.untell(7);
        Check.same("tag(7) untold", x.tag(7), 0);
        Check.keep(x, Check.DIGEST_ZERO);
        x.tell(0, 0);
        Check.same("tag(0) that tells 0", x.tag(0), 0);
    }

    private static void tagWrong() {
        Lasting x = new Lasting();
        x.tell(0, Check.keep(x, 1));
        for (int tag : NO_TAGS) {
            Check.fails("tag(" + tag + ")", x, Check.ARGUMENT, () -> x.tag(tag));
        }
    }

    private static void look() {
        Lasting x = withSixteenKeys();
        Check.same("look(0), the first", x.look(0), 100);
        Check.same("look(15), the last", x.look(15), 115);
        x.learn(15, 0);
        Check.same("look(15) that tells 0", x.look(15), 0);
        x.learn(15, Long.MIN_VALUE);
        Check.same("look(15) that tells the least", x.look(15), Long.MIN_VALUE);
    }

    private static void lookAtNone() {
        Lasting x = new Lasting();
        Check.fails("look(0) of a new object", x, Check.ELEMENT, () -> x.look(0));
        long one = Check.keep(x, 1);
        x.tell(3, one);
        x.learn(5, 6);
        for (long key : new long[] {0, 1, 3, 4, 6, -5, one, 5 + (1L << 32), 5 + (1L << 63)}) {
            Check.fails("look(" + key + ")", x, Check.ELEMENT, () -> x.look(key));
        }
        Lasting crashed = x.copy();
        crashed.crash(18 + 19, -1);
        Check.fails("look(5) that a crash took", crashed, Check.ELEMENT, () -> crashed.look(5));
        x.collect();
        Check.fails("look(5) that a collection took", x, Check.ELEMENT, () -> x.look(5));
    }

    // 12 and 13

    private static void length() {
        for (int length : new int[] {0, 1, 63, 64}) {
            Lasting x = new Lasting();
            Check.same("length", x.length(Check.keep(x, Check.rowOf(length, 255, 255))), length);
        }
        for (int length : new int[] {65, 191, 255, 256, 257, 500}) {
            Lasting x = new Lasting();
            long digest = Check.digestOf(Spoilt.crashIntoLong(x, length));
            Check.same("length of one that a crash has made", x.length(digest), length);
        }
        Lasting x = withTwentyBlobs();
        Check.same("length of the first of 20", x.length(Check.digestOf(0)), 1);
        Check.same("length of the last of 20", x.length(Check.digestOf(19)), 1);
    }

    private static void lengthOfNone() {
        Lasting x = new Lasting();
        long one = Check.keep(x, 1);
        Check.type(x, 2);
        x.learn(5, 6);
        x.pin(0, 7);
        for (long digest : new long[] {0, -1, 5, 6, 7, one + 1, one ^ (1L << 63), (int) one, x.digest()}) {
            Check.same("length(" + digest + ")", x.length(digest), BlobJournal.NONE);
        }
        x.collect();
        Check.same("length of one that went", x.length(one), BlobJournal.NONE);
    }

    private static void byteOf() {
        Lasting x = new Lasting();
        int[] bytes = Check.rowOf(64, 255, 128);
        bytes[63] = 0;
        long most = Check.keep(x, bytes);
        long one = Check.keep(x, 7);
        Check.same("byte 0 of 64", x.byteOf(most, 0), 255);
        Check.same("byte 1 of 64", x.byteOf(most, 1), 128);
        Check.same("byte 62 of 64", x.byteOf(most, 62), 128);
        Check.same("byte 63 of 64", x.byteOf(most, 63), 0);
        Check.same("byte 0 of 1", x.byteOf(one, 0), 7);
        Lasting y = new Lasting();
        int[] many = Spoilt.crashIntoLong(y, 500);
        Check.same("byte 499 of 500", y.byteOf(Check.digestOf(many), 499), many[499]);
    }

    private static void byteOfNoBlob() {
        Lasting x = new Lasting();
        long one = Check.keep(x, 1);
        for (int k : new int[] {0, -1, 1, 64, LEAST, MOST}) {
            Check.fails("byteOf(0, " + k + ")", x, Check.ELEMENT, () -> x.byteOf(0, k));
            Check.fails("byteOf(one + 1, " + k + ")", x, Check.ELEMENT, () -> x.byteOf(one + 1, k));
        }
        x.collect();
        Check.fails("byteOf one that went", x, Check.ELEMENT, () -> x.byteOf(one, 0));
    }

    private static void byteOfNoByte() {
        for (int length : new int[] {0, 1, 63, 64}) {
            Lasting x = new Lasting();
            long digest = Check.keep(x, Check.rowOf(length, 9, 8));
            Check.keep(x, 1, 2, 3);
            for (int k : new int[] {-1, length, length + 1, 64, 700, LEAST, MOST}) {
                Check.fails("byte " + k + " of " + length, x, Check.INDEX, () -> x.byteOf(digest, k));
            }
        }
    }

    // 14 to 16

    private static void count() {
        Lasting x = withSixteenKeys();
        for (int i = 0; i < 20; i++) {
            Check.keep(x, Check.rowOf(15, i, 200));
        }
        counts(x, 20, 16, 700, 0);
        x.sync();
        counts(x, 20, 16, 700, 700);
        x.collect();
        counts(x, 0, 0, 0, 0);
        Check.type(x, 1, 2);
        counts(x, 0, 0, 0, 0);
        x.keep();
        counts(x, 1, 0, 6, 0);
    }

    private static void countWrong() {
        Lasting x = new Lasting();
        Check.keep(x, 1);
        for (int what : new int[] {-1, 4, 5, 256, -4, LEAST, MOST}) {
            Check.fails("count(" + what + ")", x, Check.ARGUMENT, () -> x.count(what));
        }
    }

    private static void journal() {
        Lasting x = new Lasting();
        Check.keep(x, 255);
        Check.same("the first byte", x.journal(0), 1);
        Check.same("a byte of 255", x.journal(3), 255);
        Check.same("the last byte", x.journal(4), 1);
        Check.fill(x, 700 - 20);
        x.learn(-1, -1);
        Check.same("byte 0 of 700", x.journal(0), 1);
        Check.same("byte 698 of 700", x.journal(698), 255);
        Check.same("byte 699 of 700", x.journal(699), (4 + 16 + 16 * 255) & 255);
    }

    private static void journalWrong() {
        Lasting x = new Lasting();
        Check.fails("journal(0) of a new object", x, Check.INDEX, () -> x.journal(0));
        long one = Check.keep(x, 1);
        x.tell(0, one);
        Check.keep(x, 2);
        for (int k : new int[] {-1, 23, 24, 699, 700, 701, LEAST, MOST}) {
            Check.fails("journal(" + k + ") of 23", x, Check.INDEX, () -> x.journal(k));
        }
        x.crash(22, -1);
        Check.fails("journal(18) that a crash took", x, Check.INDEX, () -> x.journal(18));
        x.untell(0);
        x.collect();
        Check.fails("journal(0) that a collection took", x, Check.INDEX, () -> x.journal(0));
        Check.fill(x, 700);
        for (int k : new int[] {-1, 700, LEAST, MOST}) {
            Check.fails("journal(" + k + ") of 700", x, Check.INDEX, () -> x.journal(k));
        }
    }

    private static void sync() {
        Lasting x = new Lasting();
        x.sync();
        counts(x, 0, 0, 0, 0);
        Check.keep(x, 1);
        counts(x, 1, 0, 5, 0);
        x.sync();
        x.sync();
        counts(x, 1, 0, 5, 5);
        Check.fill(x, 700);
        Check.same("synced before", x.count(3), 5);
        String before = Check.journal(x);
        x.sync();
        Check.same("synced of a full journal", x.count(3), 700);
        Check.sameText("journal", Check.journal(x), before);
        Check.fails("crash(1, 0)", x, Check.ARGUMENT, () -> x.crash(1, 0));
        Check.same("crash(0, 0)", x.crash(0, 0), 700);
        Check.sameText("journal after a crash", Check.journal(x), before);
    }

    // 17 and 18

    /** A journal of 23 bytes, 18 of them synced if wished: a blob, a tag and another blob. */
    private static Lasting three(boolean synced) {
        Lasting x = new Lasting();
        x.tell(0, Check.keep(x, 1));
        if (synced) {
            x.sync();
        }
        Check.keep(x, 2);
        return x;
    }

    private static void crashLeaves() {
        for (int n = 0; n <= 23; n++) {
            Lasting x = three(false);
            int due = n == 23 ? 23 : n >= 18 ? 18 : n >= 5 ? 5 : 0;
            Check.same("crash(" + n + ", -1)", x.crash(n, -1), due);
            counts(x, due == 23 ? 2 : due == 0 ? 0 : 1, 0, due, due);
            Check.same("tag(0)", x.tag(0), due >= 18 ? Check.digestOf(1) : 0);
        }
        for (int n = 0; n <= 5; n++) {
            Lasting x = three(true);
            int due = n == 5 ? 23 : 18;
            Check.same("crash(" + n + ", -1) behind 18", x.crash(n, -1), due);
            counts(x, due == 23 ? 2 : 1, 0, due, due);
        }
        Lasting full = new Lasting();
        full.learn(1, 1);
        full.sync();
        Check.fill(full, 700);
        String before = full.seen();
        Check.same("crash(680, -1) of a full journal", full.crash(680, -1), 700);
        Check.sameText("all but what is synced", full.seen(), before.replace(" 700 20,", " 700 700,"));
    }

    private static void crashSpoils() {
        for (int spoilt = 0; spoilt < 23; spoilt++) {
            int due = spoilt < 5 ? 0 : spoilt < 18 ? 5 : 18;
            Check.same("crash(23, " + spoilt + ")", three(false).crash(23, spoilt), due);
        }
        for (int spoilt = 0; spoilt < 5; spoilt++) {
            Check.same("crash(5, " + spoilt + ") behind 18", three(true).crash(5, spoilt), 18);
        }
        Check.same("crash(22, 21)", three(false).crash(22, 21), 18);
        Check.same("crash(18, 17)", three(false).crash(18, 17), 5);
        Lasting x = new Lasting();
        Check.same("a spoilt length that makes a right record", Spoilt.crashInto(x), Spoilt.SIZE);
        Check.same("64 turned in all its bits", x.journal(1), 191);
    }

    private static void crashSpoilsNone() {
        for (int spoilt : new int[] {-1, -2, -18, 5, 6, 18, 23, 256, LEAST, LEAST + 1, MOST, MOST - 17, MOST - 18}) {
            Check.same("crash(5, " + spoilt + ") behind 18", three(true).crash(5, spoilt), 23);
        }
        for (int spoilt : new int[] {-1, 23, 24, LEAST, MOST}) {
            Check.same("crash(23, " + spoilt + ")", three(false).crash(23, spoilt), 23);
        }
        Check.same("crash(18, 18), a byte that is not left", three(false).crash(18, 18), 18);
        Check.same("crash(18, 22), a byte that is not left", three(false).crash(18, 22), 18);
        Check.same("crash(0, 0)", three(true).crash(0, 0), 18);
        Check.same("crash(0, -1)", three(true).crash(0, -1), 18);
        Lasting full = new Lasting();
        Check.fill(full, 700);
        Check.same("crash(700, 700)", full.crash(700, 700), 700);
    }

    private static void crashWrong() {
        Lasting x = three(true);
        for (int n : new int[] {-1, -18, 6, 18, 23, 24, 700, 701, LEAST, MOST, MOST - 17}) {
            for (int spoilt : new int[] {-1, 0, 4, MOST}) {
                Check.fails("crash(" + n + ", " + spoilt + ") behind 18", x, Check.ARGUMENT,
                    () -> x.crash(n, spoilt));
            }
        }
        Lasting y = three(false);
        Check.fails("crash(24, 0)", y, Check.ARGUMENT, () -> y.crash(24, 0));
        y.pin(0, Check.digestOf(2));
        Check.fails("crash(-1, 0) with a pin", y, Check.ARGUMENT, () -> y.crash(-1, 0));
        Check.same("collect() with the pin still there", y.collect(), 0);
        Check.fails("crash(1, 0) when all is synced", y, Check.ARGUMENT, () -> y.crash(1, 0));
        Lasting full = new Lasting();
        Check.fill(full, 700);
        Check.fails("crash(701, 0) of a full journal", full, Check.ARGUMENT, () -> full.crash(701, 0));
    }

    private static void collect() {
        Check.same("collect() of none", new Lasting().collect(), 0);
        Lasting x = withTwentyBlobs();
        Check.same("collect() of 20 that nothing tells", x.copy().collect(), 20);
        for (int tag = 0; tag < 8; tag++) {
            x.tell(tag, Check.digestOf(2 * tag));
        }
        for (int pin = 0; pin < 4; pin++) {
            x.pin(pin, Check.digestOf(2 * pin + 1));
        }
        Check.same("collect() of 20, as many told as can be", x.collect(), 8);
        counts(x, 12, 0, 12 * 5 + 8 * 13, 12 * 5 + 8 * 13);
        Check.same("collect() again", x.collect(), 0);
        Lasting one = new Lasting();
        one.tell(0, Check.keep(one));
        Check.same("collect() of one that is told", one.collect(), 0);
        one.untell(0);
        Check.same("collect() of one that is no longer told", one.collect(), 1);
    }
}
