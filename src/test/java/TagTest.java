/** Promises 6, 7 and 10: tell, untell, tag. */
public final class TagTest {
    public static void main(String[] args) {
        tell();
        wrongTags();
        digestZero();
        noRoom();
        roomToTheLastByte();
        Check.end();
    }

    private static void tell() {
        Lasting x = new Lasting();
        long one = Check.keep(x, 1);
        long two = Check.keep(x, 2);
        int[] blobs = Check.join(Check.record(1, 1), Check.record(1, 2));
        x.tell(7, one);
        Check.same("tag(7)", x.tag(7), one);
        Check.same("tag(6)", x.tag(6), 0);
        int[] told = Check.join(blobs, Check.tellRecord(7, one));
        Check.sameText("journal", Check.journal(x), Check.row(told));
        x.tell(7, one);
        Check.sameText("journal after the same tell", Check.journal(x), Check.row(told));
        x.tell(7, two);
        x.tell(0, two);
        Check.same("tag(7) told anew", x.tag(7), two);
        Check.same("tag(0)", x.tag(0), two);
        x.untell(7);
        Check.same("tag(7) untold", x.tag(7), 0);
        Check.same("tag(0) still", x.tag(0), two);
        Check.sameText("journal at the end", Check.journal(x), Check.row(Check.join(told,
            Check.tellRecord(7, two), Check.tellRecord(0, two), Check.record(3, 7))));
        Check.fails("untell again", x, Check.ELEMENT, () -> x.untell(7));
        x.tell(7, two);
        Check.same("tag(7) told after untell", x.tag(7), two);
    }

    private static void wrongTags() {
        Lasting x = new Lasting();
        long one = Check.keep(x, 1);
        x.learn(5, 5);
        x.pin(0, 5);
        for (int tag : new int[] {-1, 8, Integer.MIN_VALUE, Integer.MAX_VALUE}) {
            Check.fails("tell(" + tag + ")", x, Check.ARGUMENT, () -> x.tell(tag, one));
            Check.fails("tell(" + tag + ") of none such", x, Check.ARGUMENT, () -> x.tell(tag, 5));
            Check.fails("untell(" + tag + ")", x, Check.ARGUMENT, () -> x.untell(tag));
            Check.fails("tag(" + tag + ")", x, Check.ARGUMENT, () -> x.tag(tag));
        }
        Check.fails("tell of none such", x, Check.ELEMENT, () -> x.tell(0, 5));
        Check.fails("tell of 0, none such", x, Check.ELEMENT, () -> x.tell(0, 0));
        Check.fails("untell of one never told", x, Check.ELEMENT, () -> x.untell(0));
    }

    private static void digestZero() {
        Lasting x = new Lasting();
        Check.keep(x, Check.DIGEST_ZERO);
        x.tell(3, 0);
        Check.same("journal", x.count(2), 24 + 13);
        x.tell(3, 0);
        Check.same("journal after the same tell", x.count(2), 24 + 13);
        Check.same("tag(3)", x.tag(3), 0);
        x.untell(3);
        Check.same("journal after untell", x.count(2), 24 + 13 + 5);
        Check.fails("untell again", x, Check.ELEMENT, () -> x.untell(3));
    }

    /** Keeps so many blobs of 64 bytes each, records of 68 bytes: the last one's digest. */
    private static long keepLong(Lasting x, int count) {
        long last = 0;
        for (int i = 0; i < count; i++) {
            last = Check.keep(x, Check.rowOf(64, i, 7));
        }
        return last;
    }

    private static void noRoom() {
        Lasting x = new Lasting();
        long last = keepLong(x, 9);
        Check.keep(x, Check.rowOf(25, 1, 7));
        long other = Check.keep(x, Check.rowOf(25, 2, 7));
        x.tell(0, last);
        x.tell(1, last);
        Check.same("journal", x.count(2), 696);
        Check.fails("tell of 709 bytes", x, Check.UNSUPPORTED, () -> x.tell(2, last));
        Check.fails("tell of another", x, Check.UNSUPPORTED, () -> x.tell(0, other));
        Check.fails("untell of 701 bytes", x, Check.UNSUPPORTED, () -> x.untell(0));
        Check.fails("untell of one that tells none", x, Check.ELEMENT, () -> x.untell(2));
        Check.fails("tell of none such", x, Check.ELEMENT, () -> x.tell(2, 5));
        Check.fails("tell of a wrong tag", x, Check.ARGUMENT, () -> x.tell(8, last));
        x.tell(0, last);
        Check.same("journal after the same tell", x.count(2), 696);
    }

    private static void roomToTheLastByte() {
        Lasting x = new Lasting();
        long last = keepLong(x, 10);
        Check.keep(x, 1, 2, 3);
        x.tell(0, last);
        Check.same("journal that tell fills", x.count(2), 700);
        Check.same("tag(0)", x.tag(0), last);
        Lasting y = new Lasting();
        keepLong(y, 10);
        Check.keep(y, 1, 2, 3, 4);
        Check.fails("tell of 701 bytes", y, Check.UNSUPPORTED, () -> y.tell(0, last));
        Lasting z = new Lasting();
        long ninth = keepLong(z, 9);
        Check.keep(z, Check.rowOf(62, 1, 7));
        z.tell(0, ninth);
        Check.keep(z);
        Check.same("journal", z.count(2), 695);
        z.untell(0);
        Check.same("journal that untell fills", z.count(2), 700);
        Check.same("tag(0) untold", z.tag(0), 0);
    }
}
