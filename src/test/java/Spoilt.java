/**
 * Crashes that spoil a blob's length so that another record comes of it, one that is right. What
 * stands behind it are then bytes that a test has chosen: so any record can be brought into a journal.
 */
final class Spoilt {
    /** How many bytes the record has that comes of the spoilt one. */
    static final int SIZE = 195;

    /** A crash behind which the journal goes on with a spoilt record and these bytes: how many were left. */
    static int crashInto(Lasting x, int... behind) {
        int start = prepare(x, behind);
        return x.crash(x.count(2) - start, 1) - start;
    }

    /**
     * A crash behind which the journal goes on with a spoilt record and one of a blob that has so many
     * bytes, 4 to 500: these bytes.
     */
    static int[] crashIntoLong(Lasting x, int length) {
        int start = x.count(2);
        Check.same("bytes that are left", crashIntoKind(x, 1, length), SIZE + 4 + length);
        int[] bytes = new int[length];
        for (int i = 0; i < length; i++) {
            bytes[i] = x.journal(start + SIZE + 3 + i);
        }
        return bytes;
    }

    /**
     * A crash behind which the journal goes on with a spoilt record and one of this kind and length,
     * 4 to 500, with a right sum and these bytes first: how many bytes were left.
     */
    static int crashIntoKind(Lasting x, int kind, int length, int... first) {
        int start = prepare(x, Check.join(new int[] {kind, length & 255, length >> 8}, first));
        int sumAt = start + SIZE + 3 + length;
        int name = 110;
        while (sumAt >= x.count(2) + 67) {
            // The sum must stand among a blob's bytes, where it can be chosen, not between two blobs.
            int size = sumAt >= x.count(2) + 71 ? 64 : 32;
            Check.keep(x, Check.rowOf(size, name, 0));
            name++;
        }
        int[] last = Check.rowOf(sumAt - (x.count(2) + 3) + 1, name, 0);
        int end = last.length - 1;
        last[end] = 0;
        int sum = sumOf(x, start + SIZE, x.count(2)) + 1 + last.length;
        last[end] = (end > 0 ? sum + name : sum) & 255;
        Check.keep(x, last);
        return x.crash(x.count(2) - start, 1) - start;
    }

    /** Keeps four blobs, the last with the sum that the spoilt record must have and the bytes behind it. */
    private static int prepare(Lasting x, int... behind) {
        x.sync();
        int start = x.count(2);
        Check.keep(x, Check.rowOf(64, 101, 0));
        Check.keep(x, Check.rowOf(64, 102, 0));
        Check.keep(x, Check.rowOf(51, 103, 0));
        int turned = (255 - 64) - 64;
        int lastHead = 1 + behind.length + 1;
        int sum = sumOf(x, start, start + 191) + turned + lastHead;
        Check.keep(x, Check.join(new int[] {sum & 255}, behind));
        return start;
    }

    private static int sumOf(Lasting x, int start, int end) {
        int sum = 0;
        for (int k = start; k < end; k++) {
            sum += x.journal(k);
        }
        return sum;
    }

    private Spoilt() {
    }
}
