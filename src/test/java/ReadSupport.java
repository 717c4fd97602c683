/** The story that tests of reading use, and an object of it. */
abstract class ReadSupport extends FileSupport {
    static final int SEED = 6;
    static final int RAM = 48;
    static final int END = 160;
    static final byte[] HEAD = head(SEED, END);

    /** It has something of everything, so that a change by a refused file would show. */
    static GlulxSaves busy() {
        GlulxSaves x = new GlulxSaves(SEED, RAM, END);
        x.resize(192);
        x.poke(60, 1);
        x.push(77);
        x.block(170, 5);
        x.mark();
        return x;
    }
}
