import java.util.Arrays;
import java.util.function.Supplier;
import java.util.function.ToIntFunction;

/** REFUSALS change nothing; of several the first one counts. */
public final class RefusalTest extends FileSupport {
    private static final int SEED = 6;
    private static final int RAM = 96;
    private static final int END = 128;
    private static final int THROWN = Integer.MIN_VALUE + 1;

    public static void main(String[] args) {
        SentenceSupport s = new SentenceSupport("RefusalTest", args);
        unchanged(s, "2: peek: -1", RefusalTest::busy, x -> x.peek(160), -1);
        unchanged(s, "3: poke: -1: below RAM", RefusalTest::busy, x -> x.poke(95, 1), -1);
        unchanged(s, "3: poke: -1: at M", RefusalTest::busy, x -> x.poke(160, 1), -1);
        unchanged(s, "3: poke: -2", RefusalTest::busy, x -> x.poke(96, 256), -2);
        unchanged(s, "4: resize: -2", RefusalTest::busy, x -> x.resize(161), -2);
        unchanged(s, "4: resize: -3", RefusalTest::busy, x -> x.resize(128), -3);
        unchanged(s, "5: push: -4", RefusalTest::full, x -> x.push(1), -4);
        unchanged(s, "6: pop: IllegalStateException", RefusalTest::empty, RefusalTest::popOrThrown, THROWN);
        unchanged(s, "7: block: -2", RefusalTest::busy, x -> x.block(150, 65), -2);
        unchanged(s, "7: block: -3: below END", RefusalTest::busy, x -> x.block(127, 1), -3);
        unchanged(s, "7: block: -3: it meets another one", RefusalTest::busy, x -> x.block(131, 1), -3);
        unchanged(s, "7: block: -3: beyond M", RefusalTest::busy, x -> x.block(159, 2), -3);
        unchanged(s, "7: block: -4", RefusalTest::full, x -> x.block(400, 1), -4);
        unchanged(s, "8: free: -1", RefusalTest::busy, x -> x.free(131), -1);
        unchanged(s, "9: protect: -2: place", RefusalTest::busy, x -> x.protect(512, 1), -2);
        unchanged(s, "9: protect: -2: n", RefusalTest::busy, x -> x.protect(96, 513), -2);
        unchanged(s, "10: save: -4", RefusalTest::tooLong, x -> x.save(), -4);
        unchanged(s, "11: load: -10 less the FAULT", RefusalTest::busy, x -> x.load(), -12);
        unchanged(s, "12: fault: -2", RefusalTest::busy, x -> x.fault(2), -2);
        unchanged(s, "12: fault: -3", RefusalTest::empty, x -> x.fault(0), -3);
        unchanged(s, "14: undo: -3", RefusalTest::empty, x -> x.undo(), -3);
        unchanged(s, "16: at: -1", RefusalTest::busy, x -> x.at(20), -1);
        unchanged(s, "17: alter: -1", RefusalTest::busy, x -> x.alter(20, 1), -1);
        unchanged(s, "17: alter: -2", RefusalTest::busy, x -> x.alter(19, 256), -2);
        unchanged(s, "18: cut: -2: above", RefusalTest::busy, x -> x.cut(21), -2);
        unchanged(s, "18: cut: -2: below", RefusalTest::busy, x -> x.cut(-1), -2);
        unchanged(s, "19: more: -2", RefusalTest::busy, x -> x.more(1, 9), -2);
        unchanged(s, "19: more: -4", RefusalTest::full, x -> x.more(1, 8), -4);
        unchanged(s, "20: seal: -3", RefusalTest::few, x -> x.seal(), -3);
        unchanged(s, "21: count: -2", RefusalTest::busy, x -> x.count(7), -2);
        s.holds("3: of several the first one here: -1, then -2", RefusalTest::pokeOrder);
        s.holds("4: of several the first one here: -2, then -3", RefusalTest::resizeOrder);
        s.holds("7: of several the first one here: -2, -3, then -4", RefusalTest::blockOrder);
        s.holds("12: of several the first one here: -2, then -3", RefusalTest::faultOrder);
        s.holds("17: of several the first one here: -1, then -2", RefusalTest::alterOrder);
        s.holds("19: of several the first one here: -2, then -4", RefusalTest::moreOrder);
        s.finish();
    }

    private static void unchanged(SentenceSupport s, String refusal, Supplier<GlulxSaves> maker,
            ToIntFunction<GlulxSaves> refused, int want) {
        s.holds(refusal + ": changes nothing", t -> dueUnchanged(t, maker, refused, want));
    }

    /** Two objects made by the same calls: the refused call, asked of one of them, leaves them alike. */
    private static void dueUnchanged(DueSupport t, Supplier<GlulxSaves> maker,
            ToIntFunction<GlulxSaves> refused, int want) {
        GlulxSaves asked = maker.get();
        GlulxSaves left = maker.get();
        t.due("the refused call", refused.applyAsInt(asked), want);
        dueAlike(t, asked, left);
    }

    /** Looks at all that calls can tell, and then at what only shows once something comes back. */
    private static void dueAlike(DueSupport t, GlulxSaves asked, GlulxSaves left) {
        dueSameCounts(t, "at once", asked, left);
        t.due("fault(0)", asked.fault(0), left.fault(0));
        t.due("fault(1)", asked.fault(1), left.fault(1));
        dueSameEnds(t, "the file", asked, left);
        t.due("save()", asked.save(), left.save());
        dueSameEnds(t, "the save", asked, left);
        for (int k = 0; k < 4; k++) {
            t.due("undo() " + k, asked.undo(), left.undo());
            dueSameCounts(t, "undone " + k, asked, left);
        }
        t.due("load()", asked.load(), left.load());
        dueSameCounts(t, "loaded", asked, left);
        t.due("restart()", asked.restart(), left.restart());
        dueSameCounts(t, "restarted", asked, left);
    }

    private static void dueSameCounts(DueSupport t, String when, GlulxSaves asked, GlulxSaves left) {
        int[] got = DueSupport.counts(asked);
        int[] want = DueSupport.counts(left);
        for (int k = 0; k < got.length; k++) {
            t.due(when + ": count or hash " + k, got[k], want[k]);
        }
    }

    /** Of a long file the two ends: an object answers 512 calls. */
    private static void dueSameEnds(DueSupport t, String name, GlulxSaves asked, GlulxSaves left) {
        int size = left.count(3);
        for (int i = 0; i < size; i++) {
            if (i < 50 || i >= size - 40) {
                t.due(name + ": at(" + i + ")", asked.at(i), left.at(i));
            }
        }
    }

    /**
     * Every byte from RAM up to M is another than the original, so that any change of the span shows;
     * the file is one that was refused ahead of all that, so that a load finds the same fault again.
     */
    private static GlulxSaves busy() {
        GlulxSaves x = new GlulxSaves(SEED, RAM, END);
        int[] differs = new int[64];
        Arrays.fill(differs, 0x55);
        put(x, form(head(SEED, END), memory(160, differs), stack(1, -2), mall(2, 130, 5, 140, 6),
            chunk("abcd", bytes(1, 2, 3))));
        x.alter(1, 1);
        x.load();
        x.alter(1, 1);
        x.load();
        x.mark();
        x.poke(100, 0);
        x.pop();
        x.mark();
        x.protect(110, 5);
        x.poke(112, 7);
        x.alter(1, 1);
        x.cut(20);
        return x;
    }

    private static GlulxSaves full() {
        GlulxSaves x = new GlulxSaves(SEED, RAM, END);
        for (int k = 0; k < 149; k++) {
            x.more(k, 8);
        }
        x.more(-1, 1);
        x.resize(512);
        for (int k = 0; k < 40; k++) {
            x.push(k);
        }
        for (int k = 0; k < 8; k++) {
            x.block(136 + 16 * k, 8);
        }
        x.mark();
        return x;
    }

    private static GlulxSaves empty() {
        return new GlulxSaves(SEED, RAM, END);
    }

    private static GlulxSaves few() {
        GlulxSaves x = new GlulxSaves(SEED, RAM, END);
        x.more(-1, 7);
        return x;
    }

    private static GlulxSaves tooLong() {
        byte[] other = chunk("abcd", new byte[60]);
        GlulxSaves x = new GlulxSaves(0, 16, 128);
        put(x, form(head(0, 128), longestMemory(), stack(), other, other, other, other));
        x.load();
        for (int k = 0; k < 33; k++) {
            x.push(k);
        }
        return x;
    }

    private static int popOrThrown(GlulxSaves x) {
        try {
            return x.pop();
        } catch (IllegalStateException e) {
            return THROWN;
        }
    }

    private static void pokeOrder(DueSupport t) {
        GlulxSaves x = empty();
        t.due("below RAM, v above", x.poke(95, 256), -1);
        t.due("at M, v below", x.poke(128, -1), -1);
        t.due("a byte, v above", x.poke(96, 256), -2);
    }

    private static void resizeOrder(DueSupport t) {
        GlulxSaves x = busy();
        t.due("not by 32s, upon blocks", x.resize(129), -2);
        t.due("below END, upon blocks", x.resize(96), -2);
        t.due("by 32s, upon blocks", x.resize(128), -3);
    }

    private static void blockOrder(DueSupport t) {
        GlulxSaves x = full();
        t.due("too long, below END, no room", x.block(0, 65), -2);
        t.due("of no length, meeting one, no room", x.block(136, 0), -2);
        t.due("below END, no room", x.block(0, 1), -3);
        t.due("meeting one, no room", x.block(136, 1), -3);
        t.due("no room", x.block(144, 1), -4);
    }

    private static void faultOrder(DueSupport t) {
        GlulxSaves x = empty();
        t.due("out of bounds, none", x.fault(2), -2);
        t.due("none", x.fault(1), -3);
    }

    private static void alterOrder(DueSupport t) {
        GlulxSaves x = few();
        t.due("no byte, mask above", x.alter(7, 256), -1);
        t.due("no byte, mask below", x.alter(-1, -1), -1);
        t.due("a byte, mask above", x.alter(6, 256), -2);
    }

    private static void moreOrder(DueSupport t) {
        GlulxSaves x = full();
        t.due("above 8, no room", x.more(0, 9), -2);
        t.due("below 0, no room", x.more(0, -1), -2);
        t.due("no room", x.more(0, 8), -4);
    }
}
