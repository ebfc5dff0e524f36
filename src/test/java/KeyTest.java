/** Promises 8 and 11: learn, look. */
public final class KeyTest {
    public static void main(String[] args) {
        learn();
        sixteenKeys();
        noRoom();
        Check.end();
    }

    private static void learn() {
        Lasting x = new Lasting();
        long key = 0x8070605040302010L;
        x.learn(key, -2);
        int[] first = Check.keyRecord(key, -2);
        Check.sameText("journal", Check.journal(x), Check.row(first));
        Check.same("look", x.look(key), -2);
        x.learn(key, -2);
        Check.sameText("journal after the same learn", Check.journal(x), Check.row(first));
        x.learn(0, 0);
        Check.same("look(0)", x.look(0), 0);
        x.learn(key, 0);
        Check.same("look at a key that tells 0", x.look(key), 0);
        x.learn(key, 3);
        Check.same("look at a key told anew", x.look(key), 3);
        Check.same("keys", x.count(1), 2);
        Check.sameText("journal at the end", Check.journal(x), Check.row(Check.join(first,
            Check.keyRecord(0, 0), Check.keyRecord(key, 0), Check.keyRecord(key, 3))));
        Check.fails("look at none such", x, Check.ELEMENT, () -> x.look(key + 1));
        Check.fails("look at a digest", x, Check.ELEMENT, () -> x.look(3));
    }

    private static void sixteenKeys() {
        Lasting x = new Lasting();
        for (int i = 0; i < 16; i++) {
            x.learn(i, 100 + i);
        }
        Check.same("keys", x.count(1), 16);
        Check.fails("learn of the 17th", x, Check.UNSUPPORTED, () -> x.learn(16, 1));
        Check.fails("look at the 17th", x, Check.ELEMENT, () -> x.look(16));
        x.learn(15, 7);
        Check.same("look at the 16th told anew", x.look(15), 7);
        x.learn(0, 100);
        Check.same("journal", x.count(2), 17 * 20);
        Check.same("keys still", x.count(1), 16);
    }

    private static void noRoom() {
        Lasting x = new Lasting();
        for (int i = 0; i < 34; i++) {
            x.learn(5, i);
        }
        Check.keep(x);
        Check.same("journal", x.count(2), 684);
        Check.fails("learn of a new one", x, Check.UNSUPPORTED, () -> x.learn(6, 1));
        Check.fails("learn of another digest", x, Check.UNSUPPORTED, () -> x.learn(5, 1));
        x.learn(5, 33);
        Check.same("look", x.look(5), 33);
        Lasting y = new Lasting();
        for (int i = 0; i < 35; i++) {
            y.learn(5, i);
        }
        Check.same("journal that learn fills", y.count(2), 700);
        Check.fails("learn in a full journal", y, Check.UNSUPPORTED, () -> y.learn(5, 1));
        y.learn(5, 34);
        Check.same("look", y.look(5), 34);
    }
}
