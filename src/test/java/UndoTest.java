/** Promises 13 to 15: rows of undo, restarting, and what stays through them. */
public final class UndoTest {
    private static final DueSupport t = new DueSupport();

    public static void main(String[] args) {
        rows();
        eldestGoes();
        undoWithProtected();
        restart();
        restartWithProtected();
        t.finish("UndoTest");
    }

    private static void rows() {
        GlulxSaves x = new GlulxSaves(3, 16, 128);
        t.due("undo() of none", x.undo(), -3);
        x.push(1);
        x.resize(256);
        x.poke(200, 9);
        x.block(140, 10);
        int first = x.hash();
        t.due("mark()", x.mark(), 1);
        x.pop();
        x.free(140);
        x.resize(128);
        int second = x.hash();
        t.due("mark()", x.mark(), 2);
        x.push(5);
        x.push(6);
        x.poke(20, 1);
        t.due("undo()", x.undo(), 1);
        t.due("hash()", x.hash(), second);
        t.due("count(0)", x.count(0), 128);
        t.due("undo()", x.undo(), 0);
        t.due("hash()", x.hash(), first);
        t.due("peek(200)", x.peek(200), 9);
        t.due("pop()", x.pop(), 1);
        t.due("free(140)", x.free(140), 10);
        t.due("undo()", x.undo(), -3);
        t.due("count(4)", x.count(4), 0);
    }

    private static void eldestGoes() {
        GlulxSaves x = new GlulxSaves(3, 16, 128);
        for (int k = 1; k <= 7; k++) {
            x.poke(16, k);
            t.due("mark()", x.mark(), Math.min(k, 3));
        }
        x.poke(16, 99);
        for (int k = 7; k >= 5; k--) {
            t.due("undo()", x.undo(), k - 5);
            t.due("peek(16)", x.peek(16), k);
        }
        t.due("undo()", x.undo(), -3);
        t.due("peek(16)", x.peek(16), 5);
        x.mark();
        x.poke(16, 6);
        x.mark();
        x.poke(16, 7);
        t.due("undo()", x.undo(), 1);
        t.due("peek(16)", x.peek(16), 6);
        x.poke(16, 8);
        t.due("mark()", x.mark(), 2);
        x.poke(16, 9);
        t.due("undo()", x.undo(), 1);
        t.due("peek(16)", x.peek(16), 8);
        t.due("undo()", x.undo(), 0);
        t.due("peek(16)", x.peek(16), 5);
    }

    private static void undoWithProtected() {
        GlulxSaves x = new GlulxSaves(3, 16, 128);
        x.protect(126, 20);
        x.resize(160);
        x.poke(125, 1);
        x.poke(126, 2);
        x.poke(130, 3);
        x.poke(146, 4);
        x.mark();
        x.poke(125, 11);
        x.poke(126, 12);
        x.poke(130, 13);
        x.poke(146, 14);
        x.mark();
        x.resize(128);
        t.due("undo()", x.undo(), 1);
        t.due("protected, below both", x.peek(126), 12);
        t.due("was not below M", x.peek(130), 13);
        x.poke(130, 15);
        t.due("undo()", x.undo(), 0);
        t.due("not protected", x.peek(125), 1);
        t.due("protected", x.peek(126), 12);
        t.due("protected", x.peek(130), 15);
        t.due("behind the span", x.peek(146), 4);
    }

    private static void restart() {
        GlulxSaves x = new GlulxSaves(3, 16, 192);
        int fresh = x.hash();
        t.due("restart()", x.restart(), 1);
        t.due("hash()", x.hash(), fresh);
        x.save();
        x.resize(512);
        x.poke(16, 0);
        x.poke(191, 1);
        x.poke(300, 2);
        x.push(1);
        x.block(192, 64);
        x.mark();
        int busy = x.hash();
        t.due("restart()", x.restart(), 1);
        t.due("hash()", x.hash(), fresh);
        t.due("count(0)", x.count(0), 192);
        t.due("count(1)", x.count(1), 0);
        t.due("count(2)", x.count(2), 0);
        t.due("the file stays", x.count(3), 56);
        t.due("rows stay", x.count(4), 1);
        t.duePopThrows(x);
        x.resize(512);
        t.due("peek(300)", x.peek(300), 0);
        t.due("undo()", x.undo(), 0);
        t.due("hash()", x.hash(), busy);
    }

    private static void restartWithProtected() {
        GlulxSaves x = new GlulxSaves(3, 16, 128);
        x.resize(256);
        x.protect(127, 2);
        x.poke(126, 1);
        x.poke(127, 2);
        x.poke(128, 3);
        x.restart();
        t.due("not protected", x.peek(126), DueSupport.original(3, 128, 126));
        t.due("protected", x.peek(127), 2);
        t.due("beyond END", x.peek(128), -1);
        x.resize(256);
        t.due("beyond END", x.peek(128), 0);
        x.restart();
        t.due("still protected", x.peek(127), 2);
    }
}
