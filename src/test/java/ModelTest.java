import java.util.ArrayList;
import java.util.Arrays;
import java.util.LinkedHashMap;
import java.util.List;
import java.util.Map;
import java.util.NoSuchElementException;
import java.util.Random;

/** Long runs of calls, each answer and, now and then, all that can be seen held against a plain second writing. */
public final class ModelTest {
    private static final int RUNS = 2500;
    private static final int CALLS = 160;

    private final Random random;
    private final Lasting x = new Lasting();
    private final Model model = new Model();
    private final List<Long> digests = new ArrayList<>(List.of(0L, 1L, -1L));
    private final List<String> calls = new ArrayList<>();
    /** How often a kind of call comes: a run is mostly made of a few kinds, so that it comes to limits. */
    private final int[] weights = new int[13];

    private interface Call {
        Object run();
    }

    private ModelTest(long seed) {
        random = new Random(seed);
        for (int i = 0; i < weights.length; i++) {
            weights[i] = 1 + random.nextInt(40);
        }
        // Rare crashes and collections, and often no sync: else the journal never grows long.
        weights[10] = random.nextInt(3);
        weights[11] = 1 + random.nextInt(3);
        weights[12] = random.nextInt(3);
    }

    public static void main(String[] args) {
        int longBlobs = 0;
        boolean right = true;
        for (int run = 0; run < RUNS && right; run++) {
            ModelTest test = new ModelTest(run);
            for (int i = 0; i < CALLS && right; i++) {
                right = test.step();
            }
            longBlobs += test.model.sawLongBlob ? 1 : 0;
        }
        System.out.println(longBlobs + " runs with a blob that a spoilt length made");
        if (right && longBlobs == 0) {
            Check.complain("no run came to a blob that a spoilt length made");
        }
        Check.end();
    }

    private boolean step() {
        // A length that makes a right record when it is spoilt is rare: none is let go by.
        int lucky = model.luckyPlace();
        int kind = lucky == BlobJournal.NONE ? pickKind() : 11;
        int a = number();
        int b = number();
        long d = digest();
        long key = random.nextInt(20);
        switch (kind) {
            case 0: {
                int word = random.nextInt(3) == 0 ? random.nextInt() : random.nextInt(6);
                return both("type(" + word + ")", () -> x.type(word), () -> model.type(word));
            }
            case 1: {
                int n = random.nextInt(8) == 0 ? a : random.nextInt(model.typed.size() + 1);
                return both("cut(" + n + ")", () -> none(() -> x.cut(n)), () -> none(() -> model.cut(n)));
            }
            case 2: return special();
            case 3: case 4: return both("keep()", () -> noted(x.keep()), () -> model.keep());
            case 5: return both("tell(" + a + ", " + d + ")", () -> none(() -> x.tell(a, d)), () -> none(() -> model.tell(a, d)));
            case 6: return both("untell(" + a + ")", () -> none(() -> x.untell(a)), () -> none(() -> model.untell(a)));
            case 7: return both("learn(" + key + ", " + d + ")", () -> none(() -> x.learn(key, d)), () -> none(() -> model.learn(key, d)));
            case 8: return both("pin(" + a + ", " + d + ")", () -> none(() -> x.pin(a, d)), () -> none(() -> model.pin(a, d)));
            case 9: return both("byteOf(" + d + ", " + a + ")", () -> x.byteOf(d, a), () -> model.byteOf(d, a));
            case 10: return both("sync()", () -> none(() -> x.sync()), () -> none(() -> model.synced = model.journal.size()));
            case 11: {
                int behind = model.journal.size() - model.synced;
                int most = lucky == BlobJournal.NONE && random.nextBoolean() ? behind : 0;
                int n = random.nextInt(8) == 0 ? a : behind - random.nextInt(most + 1);
                int spoilt = lucky == BlobJournal.NONE ? random.nextInt(behind + 2) - 1 : lucky;
                return both("crash(" + n + ", " + spoilt + ")", () -> x.crash(n, spoilt), () -> model.crash(n, spoilt));
            }
            default: return both("collect()", () -> x.collect(), () -> model.collect());
        }
    }

    private int pickKind() {
        int sum = 0;
        for (int weight : weights) {
            sum += weight;
        }
        int left = random.nextInt(sum);
        int kind = 0;
        while (left >= weights[kind]) {
            left -= weights[kind];
            kind++;
        }
        return kind;
    }

    private int number() {
        return random.nextInt(20) == 0 ? random.nextInt() : random.nextInt(10) - 1;
    }

    private long digest() {
        return digests.get(random.nextInt(digests.size()));
    }

    private long noted(long digest) {
        if (!digests.contains(digest)) {
            digests.add(digest);
        }
        return digest;
    }

    /** Types bytes whose digest is another's, or 0, 1 or -1. */
    private boolean special() {
        int[][] rows = {Check.DIGEST_ZERO, Check.DIGEST_ONE, Check.DIGEST_NONE, Check.TWIN_ONE, Check.TWIN_TWO};
        int[] row = rows[random.nextInt(rows.length)];
        return both("typing " + Arrays.toString(row), () -> none(() -> Check.type(x, row)), () -> none(() -> {
            model.typed.clear();
            for (int b : row) {
                model.typed.add(b);
            }
        }));
    }

    private static Object none(Check.Call call) {
        call.run();
        return "nothing";
    }

    private static String answer(Call call) {
        try {
            return String.valueOf(call.run());
        } catch (RuntimeException e) {
            return e.getClass().getName();
        }
    }

    private boolean both(String name, Call real, Call due) {
        calls.add(name);
        String want = answer(due);
        String got = answer(real);
        // To look at all takes long; a crash and a collection are what changes most at once.
        boolean looks = calls.size() % 8 == 0 || name.startsWith("crash") || name.startsWith("collect");
        String wantSeen = looks ? model.seen(digests) : "";
        String gotSeen = looks ? seen() : "";
        if (got.equals(want) && gotSeen.equals(wantSeen)) {
            return true;
        }
        Check.sameText(name + " after " + calls, got, want);
        Check.sameText("what is seen then", gotSeen, wantSeen);
        return false;
    }

    private String seen() {
        StringBuilder text = new StringBuilder();
        text.append(x.digest()).append(' ').append(x.count(3)).append(' ').append(x.count(0)).append(' ').append(x.count(1));
        text.append(Check.journal(x));
        for (int tag = 0; tag < 8; tag++) {
            text.append(' ').append(x.tag(tag));
        }
        for (long d : digests) {
            text.append(' ').append(x.length(d)).append(Check.blob(x, d));
        }
        for (long key = 0; key < 20; key++) {
            long k = key;
            text.append(' ').append(answer(() -> x.look(k)));
        }
        return text.toString();
    }

    private static final class Model {
        final List<Integer> typed = new ArrayList<>();
        List<Integer> journal = new ArrayList<>();
        int synced = 0;
        Map<Long, List<Integer>> blobs = new LinkedHashMap<>();
        Long[] tags = new Long[8];
        Map<Long, Long> keys = new LinkedHashMap<>();
        Long[] pins = new Long[4];
        boolean sawLongBlob = false;

        static long digest(List<Integer> bytes) {
            long h = -7046029254386353131L;
            for (int b : bytes) {
                h = (h ^ b) * 1099511628211L;
            }
            h = (h ^ bytes.size()) * -2960836687156293229L;
            return h ^ (h >>> 32);
        }

        int type(int word) {
            if (typed.size() > 60) {
                throw new UnsupportedOperationException();
            }
            for (int i = 0; i < 4; i++) {
                typed.add((word >> (8 * i)) & 255);
            }
            return typed.size();
        }

        void cut(int n) {
            if (n < 0 || n > typed.size()) {
                throw new IllegalArgumentException();
            }
            typed.subList(n, typed.size()).clear();
        }

        static List<Integer> bytesOf(long value) {
            List<Integer> bytes = new ArrayList<>();
            for (int i = 0; i < 8; i++) {
                bytes.add((int) ((value >> (8 * i)) & 255));
            }
            return bytes;
        }

        void write(int kind, List<Integer> bytes) {
            List<Integer> record = new ArrayList<>(List.of(kind, bytes.size() % 256, bytes.size() / 256));
            record.addAll(bytes);
            record.add(record.stream().mapToInt(b -> b).sum() % 256);
            if (journal.size() + record.size() > 700) {
                throw new UnsupportedOperationException();
            }
            journal.addAll(record);
        }

        static List<Integer> both(List<Integer> one, List<Integer> two) {
            List<Integer> all = new ArrayList<>(one);
            all.addAll(two);
            return all;
        }

        long keep() {
            long d = digest(typed);
            if (!blobs.containsKey(d)) {
                if (blobs.size() == 20) {
                    throw new UnsupportedOperationException();
                }
                write(1, typed);
                blobs.put(d, new ArrayList<>(typed));
            }
            return d;
        }

        void tagIsThere(int tag) {
            if (tag < 0 || tag > 7) {
                throw new IllegalArgumentException();
            }
        }

        void tell(int tag, long d) {
            tagIsThere(tag);
            if (!blobs.containsKey(d)) {
                throw new NoSuchElementException();
            }
            if (tags[tag] == null || tags[tag] != d) {
                write(2, both(List.of(tag), bytesOf(d)));
                tags[tag] = d;
            }
        }

        void untell(int tag) {
            tagIsThere(tag);
            if (tags[tag] == null) {
                throw new NoSuchElementException();
            }
            write(3, List.of(tag));
            tags[tag] = null;
        }

        void learn(long key, long d) {
            if (!keys.containsKey(key) && keys.size() == 16) {
                throw new UnsupportedOperationException();
            }
            if (!keys.containsKey(key) || keys.get(key) != d) {
                write(4, both(bytesOf(key), bytesOf(d)));
                keys.put(key, d);
            }
        }

        void pin(int pin, long d) {
            if (pin < 0 || pin > 3) {
                throw new IllegalArgumentException();
            }
            pins[pin] = d == 0 ? null : Long.valueOf(d);
        }

        int byteOf(long d, int k) {
            if (!blobs.containsKey(d)) {
                throw new NoSuchElementException();
            }
            if (k < 0 || k >= blobs.get(d).size()) {
                throw new IndexOutOfBoundsException();
            }
            return blobs.get(d).get(k);
        }

        int crash(int n, int spoilt) {
            if (n < 0 || n > journal.size() - synced) {
                throw new IllegalArgumentException();
            }
            List<Integer> left = new ArrayList<>(journal.subList(0, synced + n));
            if (spoilt >= 0 && spoilt < n) {
                left.set(synced + spoilt, 255 - left.get(synced + spoilt));
            }
            blobs = new LinkedHashMap<>();
            keys = new LinkedHashMap<>();
            tags = new Long[8];
            pins = new Long[4];
            int at = 0;
            while (read(left.subList(at, left.size()))) {
                at += 4 + left.get(at + 1) + 256 * left.get(at + 2);
            }
            journal = new ArrayList<>(left.subList(0, at));
            synced = at;
            return at;
        }

        private boolean read(List<Integer> rest) {
            if (rest.size() < 4 || rest.size() < 4 + rest.get(1) + 256 * rest.get(2)) {
                return false;
            }
            int end = 3 + rest.get(1) + 256 * rest.get(2);
            int sum = rest.subList(0, end).stream().mapToInt(b -> b).sum() % 256;
            return rest.get(end) == sum && take(rest.get(0), rest.subList(3, end));
        }

        private static long longOf(List<Integer> bytes) {
            long value = 0;
            for (int i = 0; i < 8; i++) {
                value += ((long) bytes.get(i)) << (8 * i);
            }
            return value;
        }

        private boolean take(int kind, List<Integer> bytes) {
            if (kind == 1) {
                sawLongBlob |= bytes.size() > 64;
                blobs.putIfAbsent(digest(bytes), new ArrayList<>(bytes));
                return blobs.size() <= 20 || blobs.remove(digest(bytes)) == null;
            }
            if (kind == 2 && bytes.size() == 9) {
                long d = longOf(bytes.subList(1, 9));
                if (bytes.get(0) > 7 || !blobs.containsKey(d)) {
                    return false;
                }
                tags[bytes.get(0)] = d;
                return true;
            }
            if (kind == 3 && bytes.size() == 1 && bytes.get(0) < 8) {
                tags[bytes.get(0)] = null;
                return true;
            }
            if (kind == 4 && bytes.size() == 16) {
                long key = longOf(bytes.subList(0, 8));
                if (!keys.containsKey(key) && keys.size() == 16) {
                    return false;
                }
                keys.put(key, longOf(bytes.subList(8, 16)));
                return true;
            }
            return false;
        }

        int collect() {
            int before = blobs.size();
            List<Long> told = new ArrayList<>(Arrays.asList(tags));
            told.addAll(Arrays.asList(pins));
            blobs.keySet().removeIf(d -> !told.contains(d));
            keys.values().removeIf(d -> !blobs.containsKey(d));
            journal = new ArrayList<>();
            blobs.values().forEach(bytes -> write(1, bytes));
            for (int tag = 0; tag < 8; tag++) {
                if (tags[tag] != null) {
                    write(2, both(List.of(tag), bytesOf(tags[tag])));
                }
            }
            keys.forEach((key, d) -> write(4, both(bytesOf(key), bytesOf(d))));
            synced = journal.size();
            return before - blobs.size();
        }

        /** The place of a length that, spoilt, makes a right record of another length; NONE if none does. */
        int luckyPlace() {
            int at = 0;
            while (at < journal.size()) {
                int length = journal.get(at + 1) + 256 * journal.get(at + 2);
                int end = at + 3 + (length ^ 255);
                if (at >= synced && journal.get(at) == 1 && end < journal.size()) {
                    int sum = journal.subList(at, end).stream().mapToInt(b -> b).sum() - length + (length ^ 255);
                    if (journal.get(end) == sum % 256) {
                        return at + 1 - synced;
                    }
                }
                at += 4 + length;
            }
            return BlobJournal.NONE;
        }

        String seen(List<Long> digests) {
            StringBuilder text = new StringBuilder();
            text.append(digest(typed)).append(' ').append(synced).append(' ').append(blobs.size()).append(' ').append(keys.size());
            text.append(journal);
            for (Long tag : tags) {
                text.append(' ').append(tag == null ? 0 : tag);
            }
            for (long d : digests) {
                List<Integer> bytes = blobs.get(d);
                text.append(' ').append(bytes == null ? "-1[]" : bytes.size() + bytes.toString());
            }
            for (long key = 0; key < 20; key++) {
                text.append(' ').append(keys.containsKey(key) ? keys.get(key) : "java.util.NoSuchElementException");
            }
            return text.toString();
        }
    }
}
