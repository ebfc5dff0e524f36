/** Promises 14 to 16: count, journal, sync. */
public final class JournalTest {
    public static void main(String[] args) {
        count();
        journal();
        sync();
        Check.end();
    }

    private static void counts(Lasting x, int blobs, int keys, int bytes, int synced) {
        Check.same("count(0)", x.count(0), blobs);
        Check.same("count(1)", x.count(1), keys);
        Check.same("count(2)", x.count(2), bytes);
        Check.same("count(3)", x.count(3), synced);
    }

    private static void count() {
        Lasting x = new Lasting();
        long digest = Check.keep(x, 1, 2, 3);
        counts(x, 1, 0, 7, 0);
        x.learn(4, 5);
        counts(x, 1, 1, 27, 0);
        x.tell(0, digest);
        counts(x, 1, 1, 40, 0);
        x.sync();
        counts(x, 1, 1, 40, 40);
        x.untell(0);
        counts(x, 1, 1, 45, 40);
        for (int what : new int[] {-1, 4, Integer.MIN_VALUE, Integer.MAX_VALUE}) {
            Check.fails("count(" + what + ")", x, Check.ARGUMENT, () -> x.count(what));
        }
    }

    private static void journal() {
        Lasting x = new Lasting();
        Check.keep(x, 250, 0, 255);
        Check.sameText("journal", Check.journal(x), Check.row(1, 3, 0, 250, 0, 255, (1 + 3 + 250 + 255) & 255));
        for (int k : new int[] {-1, 7, 699, 700, Integer.MIN_VALUE, Integer.MAX_VALUE}) {
            Check.fails("journal(" + k + ")", x, Check.INDEX, () -> x.journal(k));
        }
        x.collect();
        Check.fails("journal(0) when all went", x, Check.INDEX, () -> x.journal(0));
    }

    private static void sync() {
        Lasting x = new Lasting();
        long one = Check.keep(x, 1);
        x.sync();
        long two = Check.keep(x, 2);
        Check.same("crash behind sync()", x.crash(0, 0), 5);
        Check.same("what was synced", x.length(one), 1);
        Check.same("what was not", x.length(two), BlobJournal.NONE);
        x.sync();
        x.sync();
        counts(x, 1, 0, 5, 5);
        Check.same("typed bytes stay", x.type(0), 5);
    }
}
