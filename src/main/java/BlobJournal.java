import java.util.Arrays;
import java.util.NoSuchElementException;

/**
 * Blobs, tags and keys, held in a journal of records.
 *
 * Blobs, tags and keys change only where a record is followed, be it one that a call has just
 * written or one that is read after a crash: so the two can never disagree.
 */
public final class BlobJournal {
    public static final int NONE = -1;

    private static final int MOST_TYPED = 64;
    private static final int MOST_BLOBS = 20;
    private static final int MOST_KEYS = 16;
    private static final int MOST_WRITTEN = 700;
    private static final int TAGS = 8;
    private static final int PINS = 4;

    private static final int BLOB_RECORD = 1;
    private static final int TELL_RECORD = 2;
    private static final int UNTELL_RECORD = 3;
    private static final int KEY_RECORD = 4;

    private static final int TELL_LENGTH = 9;
    private static final int UNTELL_LENGTH = 1;
    private static final int KEY_LENGTH = 16;

    /** The kind and the two bytes of the length stand before a record's bytes. */
    private static final int HEAD = 3;
    /** What a record has beside its bytes: the head and the sum. */
    private static final int FRAME = 4;
    private static final int MOST_RECORDS = MOST_WRITTEN / FRAME;

    private static final long DIGEST_START = -7046029254386353131L;
    private static final long DIGEST_STEP = 1099511628211L;
    private static final long DIGEST_END = -2960836687156293229L;

    private final int[] typed;
    private int typedCount;

    private final int[] written;
    private int writtenCount;
    private int syncedCount;

    /** A blob's bytes are not held twice: they stand in the journal, from blobStarts on. */
    private final long[] blobDigests;
    private final int[] blobStarts;
    private final int[] blobLengths;
    private int blobCount;

    /** The place of the blob that a tag tells, not its digest: a digest may be 0 as well. */
    private final int[] tagBlobs;

    private final long[] keys;
    private final long[] keyDigests;
    private int keyCount;

    private final long[] pinDigests;

    public BlobJournal() {
        typed = new int[MOST_TYPED];
        written = new int[MOST_WRITTEN];
        blobDigests = new long[MOST_BLOBS];
        blobStarts = new int[MOST_BLOBS];
        blobLengths = new int[MOST_BLOBS];
        tagBlobs = new int[TAGS];
        Arrays.fill(tagBlobs, NONE);
        keys = new long[MOST_KEYS];
        keyDigests = new long[MOST_KEYS];
        pinDigests = new long[PINS];
    }

    public int type(int bytes) throws UnsupportedOperationException {
        if (typedCount + 4 > MOST_TYPED) {
            throw new UnsupportedOperationException("more than 64 bytes would be typed");
        }
        for (int i = 0; i < 4; i++) {
            typed[typedCount + i] = (bytes >>> (8 * i)) & 255;
        }
        typedCount += 4;
        return typedCount;
    }

    public void cut(int n) throws IllegalArgumentException {
        if (n < 0 || n > typedCount) {
            throw new IllegalArgumentException("not so many bytes are typed");
        }
        typedCount = n;
    }

    public long digest() {
        return digestOf(typed, 0, typedCount);
    }

    public long keep() throws UnsupportedOperationException {
        long digest = digestOf(typed, 0, typedCount);
        if (findBlob(digest) == NONE) {
            if (blobCount >= MOST_BLOBS) {
                throw new UnsupportedOperationException("there are 20 blobs");
            }
            demandRoom(typedCount);
            follow(writeTyped());
        }
        return digest;
    }

    public void tell(int tag, long digest)
            throws IllegalArgumentException, NoSuchElementException, UnsupportedOperationException {
        demandTag(tag);
        int blob = findBlob(digest);
        if (blob == NONE) {
            throw new NoSuchElementException("no blob has this digest");
        }
        if (tagBlobs[tag] != blob) {
            demandRoom(TELL_LENGTH);
            follow(writeTell(tag, digest));
        }
    }

    public void untell(int tag)
            throws IllegalArgumentException, NoSuchElementException, UnsupportedOperationException {
        demandTag(tag);
        if (tagBlobs[tag] == NONE) {
            throw new NoSuchElementException("the tag tells none already");
        }
        demandRoom(UNTELL_LENGTH);
        follow(writeUntell(tag));
    }

    public void learn(long key, long digest) throws UnsupportedOperationException {
        int place = findKey(key);
        if (place == NONE && keyCount >= MOST_KEYS) {
            throw new UnsupportedOperationException("there are 16 keys");
        }
        if (place == NONE || keyDigests[place] != digest) {
            demandRoom(KEY_LENGTH);
            follow(writeKey(key, digest));
        }
    }

    public void pin(int pin, long digest) throws IllegalArgumentException {
        if (pin < 0 || pin >= PINS) {
            throw new IllegalArgumentException("there is no such pin");
        }
        pinDigests[pin] = digest;
    }

    public long tag(int tag) throws IllegalArgumentException {
        demandTag(tag);
        int blob = tagBlobs[tag];
        return blob == NONE ? 0 : blobDigests[blob];
    }

    public long look(long key) throws NoSuchElementException {
        int place = findKey(key);
        if (place == NONE) {
            throw new NoSuchElementException("there is no such key");
        }
        return keyDigests[place];
    }

    public int length(long digest) {
        int blob = findBlob(digest);
        return blob == NONE ? NONE : blobLengths[blob];
    }

    public int byteOf(long digest, int k) throws NoSuchElementException, IndexOutOfBoundsException {
        int blob = findBlob(digest);
        if (blob == NONE) {
            throw new NoSuchElementException("no blob has this digest");
        }
        if (k < 0 || k >= blobLengths[blob]) {
            throw new IndexOutOfBoundsException("the blob has no such byte");
        }
        return written[blobStarts[blob] + k];
    }

    public int count(int what) throws IllegalArgumentException {
        switch (what) {
            case 0:
                return blobCount;
            case 1:
                return keyCount;
            case 2:
                return writtenCount;
            case 3:
                return syncedCount;
            default:
                throw new IllegalArgumentException("there is no such count");
        }
    }

    public int journal(int k) throws IndexOutOfBoundsException {
        if (k < 0 || k >= writtenCount) {
            throw new IndexOutOfBoundsException("the journal has no such byte");
        }
        return written[k];
    }

    public void sync() {
        syncedCount = writtenCount;
    }

    public int crash(int n, int spoilt) throws IllegalArgumentException {
        if (n < 0 || n > writtenCount - syncedCount) {
            throw new IllegalArgumentException("not so many bytes are unsynced");
        }
        if (spoilt >= 0 && spoilt < n) {
            written[syncedCount + spoilt] ^= 255;
        }
        writtenCount = syncedCount + n;
        Arrays.fill(pinDigests, 0L);
        restore();
        return writtenCount;
    }

    public int collect() {
        int before = blobCount;
        writtenCount = 0;
        rewriteBlobs();
        rewriteTags();
        rewriteKeys();
        restore();
        return before - blobCount;
    }

    private static long digestOf(int[] row, int start, int length) {
        long h = DIGEST_START;
        for (int i = start; i < start + length; i++) {
            h = (h ^ row[i]) * DIGEST_STEP;
        }
        h = (h ^ length) * DIGEST_END;
        return h ^ (h >>> 32);
    }

    private int findBlob(long digest) {
        for (int i = 0; i < blobCount; i++) {
            if (blobDigests[i] == digest) {
                return i;
            }
        }
        return NONE;
    }

    private int findKey(long key) {
        for (int i = 0; i < keyCount; i++) {
            if (keys[i] == key) {
                return i;
            }
        }
        return NONE;
    }

    private static boolean isTag(int tag) {
        return tag >= 0 && tag < TAGS;
    }

    private static void demandTag(int tag) {
        if (!isTag(tag)) {
            throw new IllegalArgumentException("there is no such tag");
        }
    }

    private void demandRoom(int length) {
        if (writtenCount + FRAME + length > MOST_WRITTEN) {
            throw new UnsupportedOperationException("there is no room in the journal");
        }
    }

    // Writing: each of these answers where its record starts.

    private int writeTyped() {
        int start = writeHead(BLOB_RECORD, typedCount);
        for (int i = 0; i < typedCount; i++) {
            writeByte(typed[i]);
        }
        writeSum(start);
        return start;
    }

    private int writeTell(int tag, long digest) {
        int start = writeHead(TELL_RECORD, TELL_LENGTH);
        writeByte(tag);
        writeLong(digest);
        writeSum(start);
        return start;
    }

    private int writeUntell(int tag) {
        int start = writeHead(UNTELL_RECORD, UNTELL_LENGTH);
        writeByte(tag);
        writeSum(start);
        return start;
    }

    private int writeKey(long key, long digest) {
        int start = writeHead(KEY_RECORD, KEY_LENGTH);
        writeLong(key);
        writeLong(digest);
        writeSum(start);
        return start;
    }

    private int writeHead(int kind, int length) {
        int start = writtenCount;
        writeByte(kind);
        writeByte(length & 255);
        writeByte(length >>> 8);
        return start;
    }

    private void writeLong(long value) {
        for (int i = 0; i < 8; i++) {
            writeByte((int) (value >>> (8 * i)) & 255);
        }
    }

    private void writeSum(int start) {
        writeByte(sumOf(start, writtenCount));
    }

    private void writeByte(int value) {
        // A call demands room before it writes, and a collection writes no more than there was:
        // the test only shows here, too, that the index is one of the row's.
        if (writtenCount < MOST_WRITTEN) {
            written[writtenCount] = value;
            writtenCount++;
        }
    }

    private int sumOf(int start, int end) {
        int sum = 0;
        for (int i = start; i < end; i++) {
            sum += written[i];
        }
        return sum & 255;
    }

    // Reading.

    /** Makes all as the records say; what stands behind the last right one goes. */
    private void restore() {
        int end = writtenCount;
        blobCount = 0;
        keyCount = 0;
        Arrays.fill(tagBlobs, NONE);
        int at = 0;
        for (int i = 0; i < MOST_RECORDS && isWhole(at, end) && follow(at); i++) {
            at += FRAME + lengthAt(at);
        }
        writtenCount = at;
        syncedCount = at;
    }

    private boolean isWhole(int at, int end) {
        if (at + FRAME > end) {
            return false;
        }
        int sumAt = at + HEAD + lengthAt(at);
        return sumAt < end && written[sumAt] == sumOf(at, sumAt);
    }

    private int lengthAt(int at) {
        return written[at + 1] + 256 * written[at + 2];
    }

    private long longAt(int at) {
        long value = 0;
        for (int i = 7; i >= 0; i--) {
            value = (value << 8) | written[at + i];
        }
        return value;
    }

    /** Does what a whole record says; if it can't be right, does nothing and answers false. */
    private boolean follow(int at) {
        int length = lengthAt(at);
        int start = at + HEAD;
        switch (written[at]) {
            case BLOB_RECORD:
                return followBlob(start, length);
            case TELL_RECORD:
                return length == TELL_LENGTH && followTell(written[start], longAt(start + 1));
            case UNTELL_RECORD:
                return length == UNTELL_LENGTH && followUntell(written[start]);
            case KEY_RECORD:
                return length == KEY_LENGTH && followKey(longAt(start), longAt(start + 8));
            default:
                return false;
        }
    }

    private boolean followBlob(int start, int length) {
        long digest = digestOf(written, start, length);
        if (findBlob(digest) != NONE) {
            return true;
        }
        if (blobCount >= MOST_BLOBS) {
            return false;
        }
        blobDigests[blobCount] = digest;
        blobStarts[blobCount] = start;
        blobLengths[blobCount] = length;
        blobCount++;
        return true;
    }

    private boolean followTell(int tag, long digest) {
        int blob = findBlob(digest);
        if (!isTag(tag) || blob == NONE) {
            return false;
        }
        tagBlobs[tag] = blob;
        return true;
    }

    private boolean followUntell(int tag) {
        if (!isTag(tag)) {
            return false;
        }
        tagBlobs[tag] = NONE;
        return true;
    }

    private boolean followKey(long key, long digest) {
        int place = findKey(key);
        if (place == NONE) {
            if (keyCount >= MOST_KEYS) {
                return false;
            }
            place = keyCount;
            keys[place] = key;
            keyCount++;
        }
        keyDigests[place] = digest;
        return true;
    }

    // Collecting: blobs, tags and keys stay as they were until the new journal is read.

    private void rewriteBlobs() {
        for (int i = 0; i < blobCount; i++) {
            if (isTold(i)) {
                // Blobs stand in the journal in the order in which they came, so a record only
                // ever moves towards the beginning, over nothing that is still wanted.
                int size = FRAME + blobLengths[i];
                System.arraycopy(written, blobStarts[i] - HEAD, written, writtenCount, size);
                writtenCount += size;
            }
        }
    }

    private void rewriteTags() {
        for (int tag = 0; tag < TAGS; tag++) {
            int blob = tagBlobs[tag];
            if (blob != NONE) {
                writeTell(tag, blobDigests[blob]);
            }
        }
    }

    private void rewriteKeys() {
        for (int i = 0; i < keyCount; i++) {
            int blob = findBlob(keyDigests[i]);
            if (blob != NONE && isTold(blob)) {
                writeKey(keys[i], keyDigests[i]);
            }
        }
    }

    private boolean isTold(int blob) {
        for (int tag = 0; tag < TAGS; tag++) {
            if (tagBlobs[tag] == blob) {
                return true;
            }
        }
        for (int pin = 0; pin < PINS; pin++) {
            // A pin told 0 tells none, even if a blob's digest is 0.
            if (pinDigests[pin] != 0 && pinDigests[pin] == blobDigests[blob]) {
                return true;
            }
        }
        return false;
    }
}
