/** What the tests share: comparing answers, and typing and keeping given bytes. */
final class Check {
    /** 20 bytes whose digest is 0 (found by lattice reduction). */
    static final int[] DIGEST_ZERO =
        {68, 32, 130, 60, 15, 2, 5, 24, 3, 3, 3, 14, 2, 7, 2, 15, 25, 31, 31, 1};
    /** 20 bytes whose digest is -1, which is NONE elsewhere, and 20 whose digest is 1 (found likewise). */
    static final int[] DIGEST_NONE =
        {0, 28, 5, 4, 2, 2, 30, 2, 10, 10, 2, 5, 29, 12, 57, 31, 13, 14, 4, 61};
    static final int[] DIGEST_ONE =
        {15, 28, 10, 6, 3, 0, 2, 6, 27, 58, 1, 4, 11, 3, 121, 31, 116, 13, 7, 116};
    /** Two rows of bytes with one digest (found by lattice reduction). */
    static final int[] TWIN_ONE =
        {1, 2, 3, 4, 5, 6, 7, 8, 9, 10, 11, 12, 13, 14, 15, 16, 17, 18, 19, 20};
    static final int[] TWIN_TWO =
        {253, 230, 241, 194, 15, 6, 6, 0, 3, 25, 13, 0, 2, 0, 2, 2, 5, 7, 5, 11};
    static final long TWIN_DIGEST = -5196607854407247717L;

    static final long FILLING_KEY = -77L;

    static final Class<? extends RuntimeException> ARGUMENT = IllegalArgumentException.class;
    static final Class<? extends RuntimeException> ELEMENT = java.util.NoSuchElementException.class;
    static final Class<? extends RuntimeException> INDEX = IndexOutOfBoundsException.class;
    static final Class<? extends RuntimeException> UNSUPPORTED = UnsupportedOperationException.class;

    private static int wrong = 0;
    private static String sentence = "";

    interface Call {
        void run();
    }

    /** Runs the test of one sentence of the document: what is wrong is told with the sentence. */
    static void sentence(String words, Call test) {
        sentence = "\"" + words + "\": ";
        try {
            test.run();
        } catch (RuntimeException e) {
            complain("a call that must not throw threw " + e + " at " + e.getStackTrace()[0]);
        }
        sentence = "";
    }

    static void same(String what, long got, long want) {
        if (got != want) {
            complain(what + " answered " + got + ", due is " + want);
        }
    }

    static void sameText(String what, String got, String want) {
        if (!got.equals(want)) {
            int at = 0;
            while (at < got.length() && at < want.length() && got.charAt(at) == want.charAt(at)) {
                at++;
            }
            complain(what + "\n  is  " + part(got, at) + "\n  due " + part(want, at));
        }
    }

    /** The part of a text round a place: all of a long one would hide where it differs. */
    private static String part(String text, int at) {
        int start = Math.max(0, at - 120);
        int end = Math.min(text.length(), at + 120);
        return (start > 0 ? ".. " : "") + text.substring(start, end) + (end < text.length() ? " .." : "");
    }

    /** The call must throw just this class, and leave all of x as it was. */
    static void fails(String what, Lasting x, Class<? extends RuntimeException> due, Call call) {
        Lasting untouched = x.copy();
        String got = "nothing";
        try {
            call.run();
        } catch (RuntimeException e) {
            got = e.getClass().getName();
        }
        sameText(what + " throws", got, due.getName());
        untouched.lookWhere(x);
        sameText("all there is after " + what + " has thrown", x.all(), untouched.all());
    }

    static void complain(String text) {
        wrong++;
        System.out.println(sentence + text);
    }

    static void end() {
        System.out.println(wrong == 0 ? "all answers are as due" : wrong + " answers are not as due");
        if (wrong != 0) {
            System.exit(1);
        }
    }

    static String journal(Lasting x) {
        StringBuilder text = new StringBuilder("[");
        for (int k = 0; k < x.count(2); k++) {
            text.append(k == 0 ? "" : ", ").append(x.journal(k));
        }
        return text.append("]").toString();
    }

    static String blob(Lasting x, long digest) {
        StringBuilder text = new StringBuilder("[");
        for (int k = 0; k < x.length(digest); k++) {
            text.append(k == 0 ? "" : ", ").append(x.byteOf(digest, k));
        }
        return text.append("]").toString();
    }

    static String row(int... bytes) {
        return java.util.Arrays.toString(bytes);
    }

    /** Types just these bytes, in place of what was typed. */
    static void type(Lasting x, int... bytes) {
        x.cut(0);
        for (int i = 0; i < bytes.length; i += 4) {
            int word = 0;
            for (int j = 0; j < 4 && i + j < bytes.length; j++) {
                word |= bytes[i + j] << (8 * j);
            }
            x.type(word);
        }
        x.cut(bytes.length);
    }

    static long keep(Lasting x, int... bytes) {
        type(x, bytes);
        return x.keep();
    }

    /** Tells a key digests and keeps a blob until the journal has just so many bytes. */
    static void fill(Lasting x, int bytes) {
        while (bytes - x.count(2) > 68) {
            x.learn(FILLING_KEY, x.count(2) + 1);
        }
        keep(x, rowOf(bytes - x.count(2) - 4, x.count(2) & 255, 3));
        same("bytes of the journal that is filled", x.count(2), bytes);
    }

    /** Tells a key one digest after another until the journal has 700 bytes. */
    static void fillByKey(Lasting x, long key) {
        while (x.count(2) < 700) {
            x.learn(key, x.count(2) + 1);
        }
    }

    /** A row of so many bytes, all the same but for the first. */
    static int[] rowOf(int length, int first, int rest) {
        int[] bytes = new int[length];
        java.util.Arrays.fill(bytes, rest);
        if (length > 0) {
            bytes[0] = first;
        }
        return bytes;
    }

    /** A whole record of a kind: head, bytes and sum. */
    static int[] record(int kind, int... bytes) {
        int[] all = new int[bytes.length + 4];
        all[0] = kind;
        all[1] = bytes.length & 255;
        all[2] = bytes.length >> 8;
        System.arraycopy(bytes, 0, all, 3, bytes.length);
        int sum = 0;
        for (int b : all) {
            sum += b;
        }
        all[all.length - 1] = sum & 255;
        return all;
    }

    static int[] join(int[]... rows) {
        int length = 0;
        for (int[] row : rows) {
            length += row.length;
        }
        int[] all = new int[length];
        int at = 0;
        for (int[] row : rows) {
            System.arraycopy(row, 0, all, at, row.length);
            at += row.length;
        }
        return all;
    }

    static int[] longBytes(long value) {
        int[] bytes = new int[8];
        for (int i = 0; i < 8; i++) {
            bytes[i] = (int) (value >>> (8 * i)) & 255;
        }
        return bytes;
    }

    static long digestOf(int... bytes) {
        long h = -7046029254386353131L;
        for (int b : bytes) {
            h = (h ^ b) * 1099511628211L;
        }
        h = (h ^ bytes.length) * -2960836687156293229L;
        return h ^ (h >>> 32);
    }

    static int[] tellRecord(int tag, long digest) {
        return record(2, join(new int[] {tag}, longBytes(digest)));
    }

    static int[] keyRecord(long key, long digest) {
        return record(4, join(longBytes(key), longBytes(digest)));
    }

    private Check() {
    }
}
