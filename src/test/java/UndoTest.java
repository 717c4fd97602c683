/** Promises 13 to 15: rows of undo, restarting, and what stays through them. */
public final class UndoTest extends FileSupport {
    public static void main(String[] args) {
        SentenceSupport s = new SentenceSupport("UndoTest", args);
        s.holds("13: a row for UNDO: how many there are", UndoTest::marks);
        s.holds("13: MEMORY, M, STACK, BLOCKS as they are then", UndoTest::asTheyAreThen);
        s.holds("13: rows, 3 at most (the eldest goes)", UndoTest::eldestGoes);
        s.holds("13: rows of all sizes, empty and full", UndoTest::emptyAndFull);
        s.holds("14: the latest row of UNDO comes back, and goes: how many are left", UndoTest::latestComesBack);
        s.holds("14: PROTECTED bytes below both M stay", UndoTest::protectedBelowBoth);
        s.holds("14: PROTECTED bytes not below both M do not stay", UndoTest::protectedNotBelowBoth);
        s.holds("14: PROTECTED is the present span, no row's", UndoTest::presentSpan);
        s.holds("14: THE FILE, OTHERS are no part of a row", UndoTest::whatUndoLeaves);
        s.holds("14: -3: none", UndoTest::undoOfNone);
        s.holds("15: RESTARTED: MEMORY is ORIGINAL, M END, no STACK, BLOCKS: 1", UndoTest::restarts);
        s.holds("15: PROTECTED bytes below END stay", UndoTest::protectedBelowEnd);
        s.holds("15: THE FILE, OTHERS, UNDO are as they were", UndoTest::whatRestartLeaves);
        s.finish();
    }

    private static GlulxSaves small() {
        return new GlulxSaves(3, 16, 128);
    }

    private static void marks(DueSupport t) {
        GlulxSaves x = small();
        for (int due : new int[] {1, 2, 3, 3, 3}) {
            t.due("mark()", x.mark(), due);
            t.due("count(4)", x.count(4), due);
        }
        x.undo();
        x.undo();
        t.due("mark() upon one", x.mark(), 2);
    }

    private static void asTheyAreThen(DueSupport t) {
        GlulxSaves x = small();
        x.mark();
        x.undo();
        x.poke(16, 7);
        x.push(1);
        x.resize(256);
        x.poke(200, 9);
        x.block(140, 10);
        int then = x.hash();
        x.mark();
        t.due("mark() changes nothing", x.hash(), then);
        x.pop();
        x.push(2);
        x.push(3);
        x.poke(200, 8);
        x.poke(16, 8);
        x.free(140);
        x.block(150, 1);
        x.block(170, 2);
        x.resize(512);
        x.undo();
        t.due("count(0)", x.count(0), 256);
        t.due("count(1)", x.count(1), 1);
        t.due("count(2)", x.count(2), 1);
        t.due("hash()", x.hash(), then);
        t.due("peek(200)", x.peek(200), 9);
        t.due("pop()", x.pop(), 1);
        t.due("free(140)", x.free(140), 10);
    }

    private static void eldestGoes(DueSupport t) {
        GlulxSaves x = small();
        for (int k = 1; k <= 7; k++) {
            x.poke(16, k);
            t.due("mark()", x.mark(), Math.min(k, 3));
        }
        x.poke(16, 99);
        for (int k = 7; k >= 5; k--) {
            t.due("undo()", x.undo(), k - 5);
            t.due("peek(16)", x.peek(16), k);
        }
        t.due("a fourth one went", x.undo(), -3);
        t.due("peek(16)", x.peek(16), 5);
    }

    private static void emptyAndFull(DueSupport t) {
        GlulxSaves x = small();
        int empty = x.hash();
        x.mark();
        fill(x, 1, 480);
        int full = x.hash();
        x.mark();
        x.restart();
        fill(x, 2, 448);
        x.undo();
        t.due("full", x.hash(), full);
        t.due("no room for an int", x.push(1), -4);
        t.due("no room for a block", x.block(128, 1), -4);
        x.undo();
        t.due("empty", x.hash(), empty);
        t.duePopThrows("empty", x);
        t.due("no block", x.count(2), 0);
    }

    private static void fill(GlulxSaves x, int v, int lastStart) {
        x.resize(512);
        for (int k = 0; k < 40; k++) {
            x.push(k * v);
            x.poke(472 + k, v);
        }
        for (int k = 0; k < 8; k++) {
            x.block(lastStart - 32 * k, 32);
        }
    }

    private static void latestComesBack(DueSupport t) {
        GlulxSaves x = small();
        x.poke(16, 5);
        x.mark();
        x.poke(16, 6);
        x.mark();
        x.poke(16, 7);
        t.due("undo()", x.undo(), 1);
        t.due("peek(16)", x.peek(16), 6);
        t.due("count(4)", x.count(4), 1);
        x.poke(16, 8);
        t.due("mark()", x.mark(), 2);
        x.poke(16, 9);
        t.due("undo()", x.undo(), 1);
        t.due("peek(16)", x.peek(16), 8);
        t.due("undo()", x.undo(), 0);
        t.due("peek(16)", x.peek(16), 5);
        t.due("count(4)", x.count(4), 0);
    }

    private static void protectedBelowBoth(DueSupport t) {
        GlulxSaves x = small();
        int[] places = {19, 20, 21, 22};
        for (int i : places) {
            x.poke(i, i);
        }
        x.mark();
        for (int i : places) {
            x.poke(i, 100 + i);
        }
        x.protect(20, 2);
        t.due("undo()", x.undo(), 0);
        t.due("the byte ahead", x.peek(19), 19);
        t.due("its first byte", x.peek(20), 120);
        t.due("its last byte", x.peek(21), 121);
        t.due("the byte behind", x.peek(22), 22);
    }

    private static void protectedNotBelowBoth(DueSupport t) {
        GlulxSaves x = small();
        x.protect(127, 100);
        x.mark();
        x.resize(160);
        x.poke(127, 1);
        x.poke(128, 2);
        x.poke(159, 3);
        x.mark();
        x.poke(128, 77);
        x.poke(159, 78);
        x.resize(128);
        x.poke(127, 4);
        t.due("undo() to a larger M", x.undo(), 1);
        t.due("below both", x.peek(127), 4);
        t.due("was not below M", x.peek(128), 2);
        t.due("was not below M", x.peek(159), 3);
        x.poke(127, 5);
        t.due("undo() to a smaller M", x.undo(), 0);
        t.due("below both", x.peek(127), 5);
        t.due("beyond", x.peek(128), -1);
        x.resize(160);
        t.due("a new byte", x.peek(128), 0);
    }

    private static void presentSpan(DueSupport t) {
        GlulxSaves x = small();
        x.protect(20, 1);
        x.poke(20, 1);
        x.poke(30, 2);
        x.mark();
        x.poke(20, 3);
        x.poke(30, 4);
        x.protect(30, 1);
        x.undo();
        t.due("protected when marked", x.peek(20), 1);
        t.due("protected when undone", x.peek(30), 4);
        x.restart();
        t.due("still protected", x.peek(30), 4);
        t.due("no longer protected", x.peek(20), original(3, 128, 20));
    }

    private static void whatUndoLeaves(DueSupport t) {
        GlulxSaves x = small();
        x.mark();
        byte[] one = chunk("abcd", bytes(1));
        byte[] file = form(head(3, 128), memory(128), stack(), one);
        t.dueLoads("others", x, file);
        x.undo();
        t.dueFile("the file", x, file);
        t.due("others", x.count(5), 1);
        t.dueSaves("others", x, file);
    }

    private static void undoOfNone(DueSupport t) {
        GlulxSaves x = small();
        t.due("new", x.undo(), -3);
        x.poke(16, 5);
        x.push(1);
        int h = x.hash();
        t.due("no mark", x.undo(), -3);
        x.mark();
        t.due("one", x.undo(), 0);
        t.due("gone", x.undo(), -3);
        t.due("count(4)", x.count(4), 0);
        t.due("hash()", x.hash(), h);
    }

    private static void restarts(DueSupport t) {
        GlulxSaves x = new GlulxSaves(3, 16, 192);
        int fresh = x.hash();
        t.due("restart() of a new one", x.restart(), 1);
        t.due("hash()", x.hash(), fresh);
        x.resize(512);
        x.poke(16, 0);
        x.poke(191, 1);
        x.poke(192, 2);
        x.poke(511, 2);
        x.push(1);
        x.block(192, 64);
        t.due("restart()", x.restart(), 1);
        t.due("count(0)", x.count(0), 192);
        t.due("count(1)", x.count(1), 0);
        t.due("count(2)", x.count(2), 0);
        t.due("hash()", x.hash(), fresh);
        t.duePopThrows("restarted", x);
        t.due("free(192)", x.free(192), -1);
    }

    private static void protectedBelowEnd(DueSupport t) {
        GlulxSaves x = small();
        x.resize(256);
        x.protect(127, 2);
        x.poke(126, 1);
        x.poke(127, 2);
        x.poke(128, 3);
        x.restart();
        t.due("not protected", x.peek(126), original(3, 128, 126));
        t.due("the last byte below END", x.peek(127), 2);
        t.due("beyond END", x.peek(128), -1);
        x.resize(256);
        t.due("a new byte", x.peek(128), 0);
        x.restart();
        t.due("still protected", x.peek(127), 2);
    }

    private static void whatRestartLeaves(DueSupport t) {
        GlulxSaves x = small();
        byte[] file = form(head(3, 128), memory(160, 7), stack(1), chunk("abcd", bytes(1)));
        t.dueLoads("others", x, file);
        int busy = x.hash();
        x.mark();
        x.restart();
        t.dueFile("the file", x, file);
        t.due("others", x.count(5), 1);
        t.due("rows", x.count(4), 1);
        t.due("undo()", x.undo(), 0);
        t.due("hash()", x.hash(), busy);
    }
}
