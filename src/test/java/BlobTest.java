/** Promises 5, 12 and 13: keep, length, byteOf. */
public final class BlobTest {
    public static void main(String[] args) {
        keep();
        twins();
        twentyBlobs();
        noRoom();
        length();
        byteOf();
        Check.end();
    }

    private static void keep() {
        Lasting x = new Lasting();
        long digest = Check.keep(x, 1, 2, 255);
        Check.same("keep()", digest, x.digest());
        Check.sameText("journal", Check.journal(x), Check.row(1, 3, 0, 1, 2, 255, 6));
        Check.same("blobs", x.count(0), 1);
        Check.same("keep() again", x.keep(), digest);
        Check.same("blobs after keep() again", x.count(0), 1);
        Check.same("journal after keep() again", x.count(2), 7);
        Check.same("typed bytes stay", x.type(0), 7);
        Check.same("nothing is synced", x.count(3), 0);
    }

    private static void twins() {
        Lasting x = new Lasting();
        Check.keep(x, Check.TWIN_ONE);
        Check.same("keep() of a twin", Check.keep(x, Check.TWIN_TWO), Check.TWIN_DIGEST);
        Check.same("blobs", x.count(0), 1);
        Check.same("journal", x.count(2), 24);
        Check.sameText("the first twin stays", Check.blob(x, Check.TWIN_DIGEST), Check.row(Check.TWIN_ONE));
    }

    private static void twentyBlobs() {
        Lasting x = new Lasting();
        for (int i = 0; i < 20; i++) {
            Check.keep(x, i);
        }
        Check.same("blobs", x.count(0), 20);
        Check.type(x, 20);
        Check.fails("keep() of the 21st", x, Check.UNSUPPORTED, () -> x.keep());
        Check.type(x, 19);
        Check.same("keep() of one that is there", x.keep(), x.digest());
        Check.same("blobs still", x.count(0), 20);
        Check.same("journal still", x.count(2), 100);
    }

    private static void noRoom() {
        Lasting x = new Lasting();
        for (int i = 0; i < 10; i++) {
            Check.keep(x, Check.rowOf(64, i, 7));
        }
        Check.same("journal", x.count(2), 680);
        Check.type(x, Check.rowOf(17, 1, 2));
        Check.fails("keep() of 701 bytes", x, Check.UNSUPPORTED, () -> x.keep());
        Check.keep(x, Check.rowOf(16, 1, 2));
        Check.same("journal that is full", x.count(2), 700);
        x.cut(0);
        Check.fails("keep() of nothing in a full journal", x, Check.UNSUPPORTED, () -> x.keep());
        Check.type(x, Check.rowOf(64, 3, 7));
        Check.same("keep() of one that is there in a full journal", x.keep(), x.digest());
        Check.same("last byte of a full journal", x.journal(699), (1 + 16 + 1 + 15 * 2) & 255);
    }

    private static void length() {
        Lasting x = new Lasting();
        long empty = Check.keep(x);
        long three = Check.keep(x, 9, 8, 7);
        long most = Check.keep(x, Check.rowOf(64, 1, 1));
        Check.same("length of nothing", x.length(empty), 0);
        Check.same("length of three", x.length(three), 3);
        Check.same("length of 64", x.length(most), 64);
        Check.same("length of none such", x.length(three + 1), BlobJournal.NONE);
        Check.same("length(0) of none such", x.length(0), BlobJournal.NONE);
        Check.type(x, 5);
        Check.same("length of what is only typed", x.length(x.digest()), BlobJournal.NONE);
        Check.keep(x, Check.DIGEST_ZERO);
        Check.same("length(0)", x.length(0), 20);
    }

    private static void byteOf() {
        Lasting x = new Lasting();
        long empty = Check.keep(x);
        long three = Check.keep(x, 9, 128, 255);
        Check.same("byte 0", x.byteOf(three, 0), 9);
        Check.same("byte 1", x.byteOf(three, 1), 128);
        Check.same("byte 2", x.byteOf(three, 2), 255);
        Check.fails("byte 3", x, Check.INDEX, () -> x.byteOf(three, 3));
        Check.fails("byte -1", x, Check.INDEX, () -> x.byteOf(three, -1));
        Check.fails("byte least", x, Check.INDEX, () -> x.byteOf(three, Integer.MIN_VALUE));
        Check.fails("byte most", x, Check.INDEX, () -> x.byteOf(three, Integer.MAX_VALUE));
        Check.fails("byte 0 of nothing", x, Check.INDEX, () -> x.byteOf(empty, 0));
        Check.fails("byte 0 of none such", x, Check.ELEMENT, () -> x.byteOf(1, 0));
        Check.fails("byte -1 of none such", x, Check.ELEMENT, () -> x.byteOf(1, -1));
    }
}
