/** Promises 1 to 9: the story, memory, the stack, blocks, what is protected. */
public final class MachineTest {
    private static final DueSupport t = new DueSupport();

    public static void main(String[] args) {
        newObject();
        storyBounds();
        peekAndPoke();
        resize();
        stack();
        blocks();
        blockBounds();
        blockRoom();
        free();
        protect();
        t.finish("MachineTest");
    }

    private static void newObject() {
        int[] seeds = {0, 1, 5, -1, -77, 255, 256, Integer.MAX_VALUE, Integer.MIN_VALUE};
        for (int seed : seeds) {
            GlulxSaves x = new GlulxSaves(seed, 64, 224);
            for (int i = 0; i < 224; i++) {
                t.due("seed " + seed + " peek(" + i + ")", x.peek(i), DueSupport.original(seed, 224, i));
            }
            t.due("peek(224)", x.peek(224), -1);
            t.due("count(0)", x.count(0), 224);
            for (int what = 1; what <= 6; what++) {
                t.due("new: count(" + what + ")", x.count(what), 0);
            }
            t.due("new: fault(0)", x.fault(0), -3);
            t.due("new: undo()", x.undo(), -3);
            t.due("new: at(0)", x.at(0), -1);
        }
    }

    private static void storyBounds() {
        int[] rams = {16, 32, 48, 64, 80, 96, 0, 8, 15, 17, 24, 95, 97, 112, -16, Integer.MIN_VALUE};
        for (int ram : rams) {
            boolean good = ram >= 16 && ram <= 96 && ram % 16 == 0;
            int due = good ? ram : 16;
            GlulxSaves x = new GlulxSaves(3, ram, 256);
            t.due("ram " + ram + ": poke below", x.poke(due - 1, 1), -1);
            t.due("ram " + ram + ": poke", x.poke(due, 1), DueSupport.original(3, 256, due));
            t.due("ram " + ram + ": end", x.count(0), 256);
        }
        int[] ends = {128, 160, 192, 224, 256, 0, 96, 127, 129, 144, 240, 257, 288, 512, -128, Integer.MAX_VALUE};
        for (int end : ends) {
            boolean good = end >= 128 && end <= 256 && end % 32 == 0;
            GlulxSaves x = new GlulxSaves(3, 96, end);
            t.due("end " + end, x.count(0), good ? end : 128);
            t.due("end " + end + ": ram", x.poke(95, 0), -1);
            t.due("end " + end + ": ram", x.poke(96, 0), DueSupport.original(3, 128, 96));
        }
    }

    private static void peekAndPoke() {
        GlulxSaves x = new GlulxSaves(9, 48, 128);
        int was = DueSupport.original(9, 128, 48);
        t.due("peek(-1)", x.peek(-1), -1);
        t.due("peek(min)", x.peek(Integer.MIN_VALUE), -1);
        t.due("peek(max)", x.peek(Integer.MAX_VALUE), -1);
        t.due("peek(128)", x.peek(128), -1);
        t.due("poke(47, 1)", x.poke(47, 1), -1);
        t.due("poke(47, 256)", x.poke(47, 256), -1);
        t.due("poke(128, -1)", x.poke(128, -1), -1);
        t.due("poke(-1, 0)", x.poke(-1, 0), -1);
        t.due("poke(max, 0)", x.poke(Integer.MAX_VALUE, 0), -1);
        t.due("poke(48, -1)", x.poke(48, -1), -2);
        t.due("poke(48, 256)", x.poke(48, 256), -2);
        t.due("peek(48)", x.peek(48), was);
        t.due("poke(48, 255)", x.poke(48, 255), was);
        t.due("poke(48, 0)", x.poke(48, 0), 255);
        t.due("poke(48, 7)", x.poke(48, 7), 0);
        t.due("peek(48)", x.peek(48), 7);
        t.due("poke(127, 3)", x.poke(127, 3), DueSupport.original(9, 128, 127));
        t.due("peek(127)", x.peek(127), 3);
        t.due("peek(126)", x.peek(126), DueSupport.original(9, 128, 126));
    }

    private static void resize() {
        GlulxSaves x = new GlulxSaves(1, 16, 160);
        int[] bad = {0, 128, 159, 161, 176, 511, 513, 544, -160, Integer.MAX_VALUE, Integer.MIN_VALUE};
        for (int m : bad) {
            t.due("resize(" + m + ")", x.resize(m), -2);
        }
        t.due("resize(160)", x.resize(160), 160);
        t.due("resize(512)", x.resize(512), 160);
        t.due("peek(160)", x.peek(160), 0);
        t.due("poke(511, 5)", x.poke(511, 5), 0);
        t.due("poke(160, 6)", x.poke(160, 6), 0);
        t.due("resize(160)", x.resize(160), 512);
        t.due("peek(160)", x.peek(160), -1);
        t.due("resize(512)", x.resize(512), 160);
        t.due("a new byte is 0", x.peek(160), 0);
        t.due("a new byte is 0", x.peek(511), 0);
        t.due("peek(159)", x.peek(159), DueSupport.original(1, 160, 159));
        t.due("block(160, 32)", x.block(160, 32), 1);
        t.due("resize(192)", x.resize(192), 512);
        t.due("resize(160)", x.resize(160), -3);
        t.due("resize(100)", x.resize(100), -2);
        t.due("count(0)", x.count(0), 192);
        t.due("resize(224)", x.resize(224), 192);
        t.due("block(192, 1)", x.block(192, 1), 2);
        t.due("resize(192)", x.resize(192), -3);
        t.due("free(192)", x.free(192), 1);
        t.due("resize(192)", x.resize(192), 224);
    }

    private static void stack() {
        GlulxSaves x = new GlulxSaves(1, 16, 128);
        t.duePopThrows(x);
        for (int k = 0; k < 40; k++) {
            t.due("push", x.push(k * -100000001), k + 1);
        }
        t.due("push on 40", x.push(1), -4);
        t.due("count(1)", x.count(1), 40);
        for (int k = 39; k >= 0; k--) {
            t.due("pop", x.pop(), k * -100000001);
        }
        t.duePopThrows(x);
        t.due("count(1)", x.count(1), 0);
        t.due("push(min)", x.push(Integer.MIN_VALUE), 1);
        t.due("pop", x.pop(), Integer.MIN_VALUE);
    }

    private static void blocks() {
        GlulxSaves x = new GlulxSaves(1, 16, 128);
        t.due("no room below M", x.block(128, 1), -3);
        x.resize(256);
        t.due("block(160, 16)", x.block(160, 16), 1);
        t.due("block below END", x.block(127, 1), -3);
        t.due("block over END", x.block(127, 2), -3);
        t.due("the same", x.block(160, 16), -3);
        t.due("inside", x.block(164, 4), -3);
        t.due("around", x.block(150, 40), -3);
        t.due("its last byte", x.block(175, 1), -3);
        t.due("its first byte", x.block(145, 16), -3);
        t.due("right behind", x.block(176, 8), 2);
        t.due("right ahead", x.block(144, 16), 3);
        t.due("up to M", x.block(192, 64), 4);
        t.due("beyond M", x.block(256, 1), -3);
        t.due("between, too long", x.block(184, 9), -3);
        t.due("between", x.block(184, 8), 5);
        t.due("at END", x.block(128, 16), 6);
    }

    private static void blockBounds() {
        GlulxSaves x = new GlulxSaves(1, 16, 256);
        x.resize(512);
        t.due("length 0", x.block(256, 0), -2);
        t.due("length -1", x.block(256, -1), -2);
        t.due("length 65", x.block(256, 65), -2);
        t.due("length max", x.block(0, Integer.MAX_VALUE), -2);
        t.due("length min", x.block(0, Integer.MIN_VALUE), -2);
        t.due("start max", x.block(Integer.MAX_VALUE, 64), -3);
        t.due("start min", x.block(Integer.MIN_VALUE, 64), -3);
        t.due("start -1", x.block(-1, 64), -3);
        t.due("one too far", x.block(449, 64), -3);
        t.due("just so far", x.block(448, 64), 1);
        t.due("length 1", x.block(447, 1), 2);
        t.due("count(2)", x.count(2), 2);
    }

    private static void blockRoom() {
        GlulxSaves x = new GlulxSaves(1, 16, 256);
        x.resize(512);
        for (int k = 0; k < 8; k++) {
            t.due("block", x.block(480 - 16 * k, 8), k + 1);
        }
        t.due("the first refusal", x.block(500, 65), -2);
        t.due("then this", x.block(480, 8), -3);
        t.due("then room", x.block(488, 8), -4);
        t.due("count(2)", x.count(2), 8);
        t.due("free", x.free(416), 8);
        t.due("room again", x.block(488, 8), 8);
    }

    private static void free() {
        GlulxSaves x = new GlulxSaves(1, 16, 128);
        x.resize(512);
        t.due("free of none", x.free(0), -1);
        x.block(300, 5);
        x.block(200, 6);
        x.block(400, 7);
        t.due("free(201)", x.free(201), -1);
        t.due("free(-1)", x.free(-1), -1);
        t.due("free(300)", x.free(300), 5);
        t.due("free(300) again", x.free(300), -1);
        t.due("count(2)", x.count(2), 2);
        t.due("block(300, 9)", x.block(300, 9), 3);
        t.due("free(200)", x.free(200), 6);
        t.due("free(400)", x.free(400), 7);
        t.due("free(300)", x.free(300), 9);
        t.due("count(2)", x.count(2), 0);
    }

    private static void protect() {
        GlulxSaves x = new GlulxSaves(1, 16, 128);
        int[][] bad = {{-1, 0}, {512, 0}, {0, -1}, {0, 513}, {Integer.MIN_VALUE, 1}, {0, Integer.MAX_VALUE}};
        x.poke(20, 99);
        x.poke(21, 98);
        t.due("protect(20, 1)", x.protect(20, 1), 1);
        for (int[] b : bad) {
            t.due("protect(" + b[0] + ", " + b[1] + ")", x.protect(b[0], b[1]), -2);
        }
        x.restart();
        t.due("a refusal leaves it", x.peek(20), 99);
        t.due("the byte behind", x.peek(21), DueSupport.original(1, 128, 21));
        t.due("it may be poked", x.poke(20, 97), 99);
        t.due("protect(511, 512)", x.protect(511, 512), 1);
        x.restart();
        t.due("in place of the span before", x.peek(20), DueSupport.original(1, 128, 20));
        x.poke(20, 96);
        t.due("protect(20, 0)", x.protect(20, 0), 1);
        x.restart();
        t.due("n 0: none", x.peek(20), DueSupport.original(1, 128, 20));
        x.poke(127, 1);
        x.poke(16, 2);
        t.due("protect(0, 512)", x.protect(0, 512), 1);
        x.restart();
        t.due("all stays", x.peek(127), 1);
        t.due("all stays", x.peek(16), 2);
    }
}
