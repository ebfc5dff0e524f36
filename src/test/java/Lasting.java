import java.util.ArrayList;
import java.util.List;
import java.util.Set;
import java.util.TreeSet;

/**
 * A BlobJournal that a test may look at as often as it likes. Nothing is promised of an object
 * after its 512th call: so before that, this takes a new object and does on it again what was done
 * on the old one, and each answer must come again.
 */
final class Lasting {
    private static final int MOST_CALLS = 512;

    private interface Call {
        long on(BlobJournal x);
    }

    private BlobJournal object = new BlobJournal();
    private int calls = 0;
    private final List<Call> done = new ArrayList<>();
    private final List<String> answers = new ArrayList<>();
    /** What the test has named: the keys and digests at which it is worth looking. */
    private final Set<Long> keys = new TreeSet<>(List.of(0L));
    private final Set<Long> digests = new TreeSet<>(List.of(0L));

    int type(int bytes) {
        return (int) change(x -> x.type(bytes));
    }

    void cut(int n) {
        change(x -> {
            x.cut(n);
            return 0;
        });
    }

    long digest() {
        return ask(x -> x.digest());
    }

    long keep() {
        long digest = change(x -> x.keep());
        digests.add(digest);
        return digest;
    }

    void tell(int tag, long digest) {
        digests.add(digest);
        change(x -> {
            x.tell(tag, digest);
            return 0;
        });
    }

    void untell(int tag) {
        change(x -> {
            x.untell(tag);
            return 0;
        });
    }

    void learn(long key, long digest) {
        keys.add(key);
        digests.add(digest);
        change(x -> {
            x.learn(key, digest);
            return 0;
        });
    }

    void pin(int pin, long digest) {
        digests.add(digest);
        change(x -> {
            x.pin(pin, digest);
            return 0;
        });
    }

    long tag(int tag) {
        return ask(x -> x.tag(tag));
    }

    long look(long key) {
        return ask(x -> x.look(key));
    }

    int length(long digest) {
        return (int) ask(x -> x.length(digest));
    }

    int byteOf(long digest, int k) {
        return (int) ask(x -> x.byteOf(digest, k));
    }

    int count(int what) {
        return (int) ask(x -> x.count(what));
    }

    int journal(int k) {
        return (int) ask(x -> x.journal(k));
    }

    void sync() {
        change(x -> {
            x.sync();
            return 0;
        });
    }

    int crash(int n, int spoilt) {
        return (int) change(x -> x.crash(n, spoilt));
    }

    int collect() {
        return (int) change(x -> x.collect());
    }

    /** Another one to which all has been done that was done to this one. */
    Lasting copy() {
        Lasting copy = new Lasting();
        copy.done.addAll(done);
        copy.answers.addAll(answers);
        copy.lookWhere(this);
        copy.renew();
        return copy;
    }

    /** Looks from now on also at the keys and digests that were named to the other. */
    void lookWhere(Lasting other) {
        keys.addAll(other.keys);
        digests.addAll(other.digests);
    }

    /** All that the looking calls tell. */
    String seen() {
        StringBuilder text = new StringBuilder();
        text.append("typed ").append(digest()).append(", counts");
        for (int what = 0; what < 4; what++) {
            text.append(' ').append(count(what));
        }
        text.append(", tags");
        for (int tag = 0; tag < 8; tag++) {
            text.append(' ').append(tag(tag));
        }
        text.append(", keys");
        for (long key : keys) {
            text.append(' ').append(key).append(": ").append(answer(x -> x.look(key)));
        }
        text.append(", blobs");
        for (long digest : digests) {
            text.append(' ').append(digest).append(": ").append(length(digest)).append(Check.blob(this, digest));
        }
        return text.append(", journal ").append(Check.journal(this)).toString();
    }

    /** All there is, that too which shows only later: the pins, what is synced, which tags tell a digest of 0. */
    String all() {
        Lasting collected = copy();
        int went = collected.collect();
        Lasting bare = copy();
        bare.crash(0, -1);
        Lasting whole = copy();
        whole.crash(count(2) - count(3), -1);
        return seen() + "\n    collected, " + went + " went: " + collected.seen()
            + "\n    crashed to what is synced: " + bare.seen() + "\n    crashed with all left: " + whole.seen();
    }

    private long change(Call call) {
        makeRoom();
        calls++;
        done.add(call);
        try {
            long answer = call.on(object);
            answers.add(String.valueOf(answer));
            return answer;
        } catch (RuntimeException e) {
            answers.add(e.getClass().getName());
            throw e;
        }
    }

    private long ask(Call call) {
        makeRoom();
        calls++;
        return call.on(object);
    }

    private String answer(Call call) {
        try {
            return String.valueOf(ask(call));
        } catch (RuntimeException e) {
            return e.getClass().getName();
        }
    }

    private void makeRoom() {
        if (calls >= MOST_CALLS) {
            renew();
        }
    }

    private void renew() {
        if (done.size() >= MOST_CALLS) {
            throw new AssertionError("this test changes an object more often than the document allows");
        }
        object = new BlobJournal();
        calls = 0;
        for (int i = 0; i < done.size(); i++) {
            Check.sameText("call " + i + " done again", answer(done.get(i)), answers.get(i));
        }
    }
}
