/** Promises 1 to 4: a new object, type, cut, digest. */
public final class TypedTest {
    public static void main(String[] args) {
        newObject();
        type();
        typeIsFull();
        cut();
        digest();
        Check.end();
    }

    private static void newObject() {
        Lasting x = new Lasting();
        for (int what = 0; what < 4; what++) {
            Check.same("count(" + what + ") of a new object", x.count(what), 0);
        }
        for (int tag = 0; tag < 8; tag++) {
            Check.same("tag of a new object", x.tag(tag), 0);
            int t = tag;
            Check.fails("untell on a new object", x, Check.ELEMENT, () -> x.untell(t));
        }
        Check.fails("look on a new object", x, Check.ELEMENT, () -> x.look(0));
        Check.same("length(0) of a new object", x.length(0), BlobJournal.NONE);
        Check.fails("journal(0) on a new object", x, Check.INDEX, () -> x.journal(0));
        Check.fails("cut(1) on a new object", x, Check.ARGUMENT, () -> x.cut(1));
        Check.same("digest() of a new object", x.digest(), 8537760154312528559L);
        Check.same("collect() of a new object", x.collect(), 0);
        Check.same("crash(0, 0) of a new object", x.crash(0, 0), 0);
        Check.same("NONE", BlobJournal.NONE, -1);
    }

    private static void type() {
        Lasting x = new Lasting();
        Check.same("type", x.type(0xFF804001), 4);
        Check.same("type again", x.type(-2), 8);
        Check.sameText("typed bytes", Check.blob(x, x.keep()), Check.row(1, 64, 128, 255, 254, 255, 255, 255));
    }

    private static void typeIsFull() {
        Lasting x = new Lasting();
        for (int i = 1; i <= 16; i++) {
            Check.same("type", x.type(i), 4 * i);
        }
        Check.fails("type the 65th byte", x, Check.UNSUPPORTED, () -> x.type(0));
        x.cut(61);
        Check.fails("type at 61", x, Check.UNSUPPORTED, () -> x.type(0));
        x.cut(60);
        Check.same("type at 60", x.type(0), 64);
    }

    private static void cut() {
        Lasting x = new Lasting();
        x.type(0x04030201);
        Check.fails("cut(-1)", x, Check.ARGUMENT, () -> x.cut(-1));
        Check.fails("cut(5)", x, Check.ARGUMENT, () -> x.cut(5));
        Check.fails("cut(least)", x, Check.ARGUMENT, () -> x.cut(Integer.MIN_VALUE));
        Check.fails("cut(most)", x, Check.ARGUMENT, () -> x.cut(Integer.MAX_VALUE));
        x.cut(4);
        Check.sameText("cut(4) of 4", Check.blob(x, x.keep()), Check.row(1, 2, 3, 4));
        x.cut(2);
        Check.sameText("cut(2) of 4", Check.blob(x, x.keep()), Check.row(1, 2));
        Check.fails("cut(3) after cut(2)", x, Check.ARGUMENT, () -> x.cut(3));
        Check.same("type behind a cut", x.type(0x08070605), 6);
        Check.sameText("typed behind a cut", Check.blob(x, x.keep()), Check.row(1, 2, 5, 6, 7, 8));
        x.cut(0);
        Check.same("digest() of nothing", x.digest(), 8537760154312528559L);
    }

    private static void digest() {
        Lasting x = new Lasting();
        Check.type(x, 1, 2, 3);
        Check.same("digest() of 1 2 3", x.digest(), -6188227466131721585L);
        Check.type(x, 1, 2, 3, 1, 0, 0, 0);
        Check.same("digest() of seven bytes", x.digest(), -1916905645964479137L);
        Check.type(x, Check.DIGEST_ZERO);
        Check.same("digest() that is 0", x.digest(), 0);
        Check.type(x, Check.TWIN_ONE);
        Check.same("digest() of a twin", x.digest(), Check.TWIN_DIGEST);
        Check.type(x, Check.TWIN_TWO);
        Check.same("digest() of the other twin", x.digest(), Check.TWIN_DIGEST);
        Check.same("digest() keeps nothing", x.count(0) + x.count(2), 0);
    }
}
