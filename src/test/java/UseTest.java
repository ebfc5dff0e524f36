/** The example in README.md, call by call. */
public final class UseTest {
    public static void main(String[] args) {
        BlobJournal x = new BlobJournal();
        Check.same("type(0x04030201)", x.type(0x04030201), 4);
        x.cut(3);
        long digest = x.keep();
        Check.same("keep()", digest, Check.digestOf(1, 2, 3));
        x.tell(0, digest);
        x.learn(7L, digest);
        x.sync();
        x.untell(0);
        Check.same("tag(0) untold", x.tag(0), 0);
        Check.same("crash(0, NONE)", x.crash(0, BlobJournal.NONE), 40);
        Check.same("tag(0)", x.tag(0), digest);
        Check.same("collect()", x.collect(), 0);
        Check.end();
    }
}
