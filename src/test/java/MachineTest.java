/** The story and promises 1 to 9: memory, the stack, blocks, what is protected. */
public final class MachineTest extends FileSupport {
    public static void main(String[] args) {
        SentenceSupport s = new SentenceSupport("MachineTest", args);
        s.holds("1: RAM (16 to 96, by 16s), what is not as told is 16", MachineTest::rams);
        s.holds("1: END (128 to 256, by 32s), what is not as told is 128", MachineTest::ends);
        s.holds("1: SEED anything", MachineTest::seeds);
        s.holds("1: MEMORY has M bytes, END at first", MachineTest::memoryAtFirst);
        s.holds("1: ORIGINAL below END; behind that 0", MachineTest::originalBehindEnd);
        s.holds("1: THE FILE is empty, no OTHERS, UNDO", MachineTest::nothingAtFirst);
        s.holds("1: an object is used for at most 512 calls", MachineTest::callsInAll);
        s.holds("2: -1", MachineTest::peekOutside);
        s.holds("3: bytes from RAM on may be written: what it was", MachineTest::pokes);
        s.holds("3: -1: also below RAM", MachineTest::pokeOutside);
        s.holds("3: -2: v 0 to 255", MachineTest::pokeValues);
        s.holds("4: M becomes m, by 32s up to 512: what it was", MachineTest::sizes);
        s.holds("4: new bytes are 0", MachineTest::newBytes);
        s.holds("4: new bytes are 0, whatever made M smaller", MachineTest::newBytesBehindOthers);
        s.holds("4: -2: not END to 512 by 32s", MachineTest::resizeBounds);
        s.holds("4: -3: a BLOCK is not below it", MachineTest::resizeUponBlocks);
        s.holds("5: an int comes upon STACK: how many", MachineTest::pushes);
        s.holds("5: STACK: 40 ints at most: -4", MachineTest::pushWithoutRoom);
        s.holds("6: the latest int goes: it", MachineTest::pops);
        s.holds("6: IllegalStateException: there is none", MachineTest::popOfNone);
        s.holds("7: a LENGTH (1 to 64): -2", MachineTest::blockLengths);
        s.holds("7: a START (END or more): -3", MachineTest::blockStarts);
        s.holds("7: all of it below M: -3", MachineTest::blocksBelowM);
        s.holds("7: none meets another one: -3", MachineTest::blocksApart);
        s.holds("7: BLOCKS: 8 at most: -4", MachineTest::blocksWithoutRoom);
        s.holds("8: the BLOCK with a START goes: its LENGTH", MachineTest::frees);
        s.holds("8: -1", MachineTest::freeOfNone);
        s.holds("9: PROTECTED becomes n bytes from a place on", MachineTest::protectedSpan);
        s.holds("9: a span of MEMORY: also where M does not reach yet", MachineTest::protectedBeyondM);
        s.holds("9: n 0: none", MachineTest::protectedNone);
        s.holds("9: -2: place 0 to 511", MachineTest::protectedPlaces);
        s.holds("9: -2: n 0 to 512", MachineTest::protectedNumbers);
        s.finish();
    }

    private static void rams(DueSupport t) {
        for (int ram = 16; ram <= 96; ram += 16) {
            dueRam(t, ram, ram);
        }
        for (int ram : new int[] {0, 8, 15, 17, 24, 31, 33, 95, 97, 104, 112, 128, -16, -1, LEAST, MOST, MOST - 15}) {
            dueRam(t, ram, 16);
        }
    }

    private static void dueRam(DueSupport t, int told, int ram) {
        GlulxSaves x = new GlulxSaves(3, told, 256);
        t.due("ram " + told + ": poke below", x.poke(ram - 1, 1), -1);
        t.due("ram " + told + ": poke", x.poke(ram, 1), original(3, 256, ram));
        t.due("ram " + told + ": end as told", x.count(0), 256);
    }

    private static void ends(DueSupport t) {
        for (int end = 128; end <= 256; end += 32) {
            dueEnd(t, end, end);
        }
        for (int end : new int[] {0, 96, 127, 129, 144, 159, 161, 240, 255, 257, 288, 512, -128, LEAST, MOST}) {
            dueEnd(t, end, 128);
        }
        GlulxSaves x = new GlulxSaves(3, 15, 257);
        t.due("neither as told: end", x.count(0), 128);
        t.due("neither as told: ram", x.poke(16, 1), original(3, 128, 16));
    }

    private static void dueEnd(DueSupport t, int told, int end) {
        GlulxSaves x = new GlulxSaves(3, 96, told);
        t.due("end " + told, x.count(0), end);
        t.due("end " + told + ": the last byte", x.peek(end - 1), original(3, end, end - 1));
        t.due("end " + told + ": smaller", x.resize(end - 32), -2);
        t.due("end " + told + ": ram as told", x.poke(95, 0), -1);
        t.due("end " + told + ": ram as told", x.poke(96, 0), original(3, end, 96));
    }

    /** 37 i + SEED (i / 16 + 1) goes around for the larger ones; the lowest 8 bits are its own still. */
    private static void seeds(DueSupport t) {
        for (int seed : new int[] {0, 1, 5, 255, 256, -1, -77, -256, MOST, LEAST, LEAST + 1, MOST / 16}) {
            GlulxSaves x = new GlulxSaves(seed, 64, 256);
            for (int i = 0; i < 256; i++) {
                long whole = 37L * i + (long) seed * (i / 16 + 1) + i / 7;
                t.due("seed " + seed + ": peek(" + i + ")", x.peek(i), Math.floorMod(whole, 256L));
            }
        }
    }

    private static void memoryAtFirst(DueSupport t) {
        for (int end = 128; end <= 256; end += 32) {
            GlulxSaves x = new GlulxSaves(1, 16, end);
            t.due("count(0)", x.count(0), end);
            t.due("peek(END - 1)", x.peek(end - 1), original(1, end, end - 1));
            t.due("peek(END)", x.peek(end), -1);
        }
    }

    /** Behind END what differs is the byte itself, below it the byte xored. */
    private static void originalBehindEnd(DueSupport t) {
        GlulxSaves x = new GlulxSaves(1, 16, 128);
        byte[] told = memory(160, 0, 110, 0x55, 0x66);
        t.dueLoads("both sides of END", x, form(head(1, 128), told, stack()));
        t.due("peek(127)", x.peek(127), original(1, 128, 127) ^ 0x55);
        t.due("peek(128)", x.peek(128), 0x66);
        t.due("peek(159)", x.peek(159), 0);
        t.dueSaves("both sides of END", x, form(head(1, 128), told, stack()));
    }

    private static void nothingAtFirst(DueSupport t) {
        GlulxSaves x = new GlulxSaves(1, 16, 128);
        for (int what = 1; what <= 6; what++) {
            t.due("count(" + what + ")", x.count(what), 0);
        }
        t.due("at(0)", x.at(0), -1);
        t.due("undo()", x.undo(), -3);
        t.due("fault(0)", x.fault(0), -3);
        t.duePopThrows("new", x);
        t.dueSaves("nothing", x, form(head(1, 128), memory(128), stack()));
        GlulxSaves y = new GlulxSaves(1, 16, 128);
        y.poke(16, 1);
        y.restart();
        t.due("nothing is protected", y.peek(16), original(1, 128, 16));
    }

    private static void callsInAll(DueSupport t) {
        GlulxSaves x = new GlulxSaves(1, 16, 128);
        int was = original(1, 128, 127);
        for (int k = 0; k < 128; k++) {
            int v = original(1, 128, 127) ^ 1 + k;
            t.due("mark()", x.mark(), Math.min(k + 1, 3));
            t.due("save()", x.save(), k == 0 ? 56 : 60);
            t.due("load()", x.load(), 1);
            t.due("call " + (4 * k + 4), x.poke(127, v), was);
            was = v;
        }
    }

    private static void peekOutside(DueSupport t) {
        GlulxSaves x = new GlulxSaves(9, 48, 128);
        t.due("peek(0)", x.peek(0), original(9, 128, 0));
        t.due("peek(127)", x.peek(127), original(9, 128, 127));
        for (int i : new int[] {-1, 128, 512, 1200, LEAST, MOST}) {
            t.due("peek(" + i + ")", x.peek(i), -1);
        }
        x.resize(512);
        t.due("peek(511)", x.peek(511), 0);
        t.due("peek(512)", x.peek(512), -1);
        x.resize(160);
        t.due("peek(159)", x.peek(159), 0);
        t.due("peek(160)", x.peek(160), -1);
    }

    private static void pokes(DueSupport t) {
        GlulxSaves x = new GlulxSaves(9, 48, 128);
        t.due("poke(48, 255)", x.poke(48, 255), original(9, 128, 48));
        t.due("poke(48, 7)", x.poke(48, 7), 255);
        t.due("peek(48)", x.peek(48), 7);
        t.due("poke(127, 3)", x.poke(127, 3), original(9, 128, 127));
        t.due("peek(127)", x.peek(127), 3);
        t.due("peek(126)", x.peek(126), original(9, 128, 126));
        t.due("peek(47)", x.peek(47), original(9, 128, 47));
    }

    private static void pokeOutside(DueSupport t) {
        GlulxSaves x = new GlulxSaves(9, 48, 128);
        for (int i : new int[] {0, 15, 47, -1, 128, 512, LEAST, MOST}) {
            t.due("poke(" + i + ", 1)", x.poke(i, 1), -1);
            t.due("poke(" + i + ", 256)", x.poke(i, 256), -1);
        }
        t.due("peek(47)", x.peek(47), original(9, 128, 47));
        t.due("peek(0)", x.peek(0), original(9, 128, 0));
        x.resize(512);
        t.due("poke(511, 1)", x.poke(511, 1), 0);
        t.due("poke(512, 1)", x.poke(512, 1), -1);
    }

    private static void pokeValues(DueSupport t) {
        GlulxSaves x = new GlulxSaves(9, 48, 128);
        for (int v : new int[] {-1, 256, 512, LEAST, MOST}) {
            t.due("poke(48, " + v + ")", x.poke(48, v), -2);
            t.due("peek(48)", x.peek(48), original(9, 128, 48));
        }
        t.due("poke(48, 0)", x.poke(48, 0), original(9, 128, 48));
        t.due("poke(48, 255)", x.poke(48, 255), 0);
        t.due("peek(48)", x.peek(48), 255);
    }

    private static void sizes(DueSupport t) {
        GlulxSaves x = new GlulxSaves(1, 16, 160);
        int was = 160;
        for (int m : new int[] {160, 192, 512, 480, 512, 224, 160}) {
            t.due("resize(" + m + ")", x.resize(m), was);
            t.due("count(0)", x.count(0), m);
            t.due("peek(m)", x.peek(m), -1);
            was = m;
        }
        t.due("peek(159)", x.peek(159), original(1, 160, 159));
    }

    private static void newBytes(DueSupport t) {
        GlulxSaves x = new GlulxSaves(1, 16, 160);
        x.resize(512);
        t.due("peek(160)", x.peek(160), 0);
        t.due("peek(511)", x.peek(511), 0);
        x.poke(160, 6);
        x.poke(191, 7);
        x.poke(192, 8);
        x.poke(511, 5);
        x.resize(192);
        t.due("peek(191)", x.peek(191), 7);
        x.resize(512);
        t.due("kept", x.peek(160), 6);
        t.due("kept", x.peek(191), 7);
        t.due("new", x.peek(192), 0);
        t.due("new", x.peek(511), 0);
    }

    private static void newBytesBehindOthers(DueSupport t) {
        GlulxSaves x = new GlulxSaves(1, 16, 128);
        x.mark();
        x.save();
        fillAndComeBack(t, "load", x, x::load);
        fillAndComeBack(t, "undo", x, x::undo);
        fillAndComeBack(t, "restart", x, x::restart);
    }

    private static void fillAndComeBack(DueSupport t, String name, GlulxSaves x, Runnable back) {
        x.resize(512);
        x.poke(128, 1);
        x.poke(511, 2);
        x.protect(0, 512);
        back.run();
        t.due(name + ": resize(512)", x.resize(512), 128);
        t.due(name + ": peek(128)", x.peek(128), 0);
        t.due(name + ": peek(511)", x.peek(511), 0);
    }

    private static void resizeBounds(DueSupport t) {
        GlulxSaves x = new GlulxSaves(1, 16, 160);
        for (int m : new int[] {0, 128, 159, 161, 176, 191, 511, 513, 544, -160, LEAST, MOST, MOST - 31}) {
            t.due("resize(" + m + ")", x.resize(m), -2);
        }
        t.due("count(0)", x.count(0), 160);
        GlulxSaves y = new GlulxSaves(1, 16, 256);
        t.due("resize(224)", y.resize(224), -2);
        t.due("resize(288)", y.resize(288), 256);
    }

    private static void resizeUponBlocks(DueSupport t) {
        GlulxSaves x = new GlulxSaves(1, 16, 160);
        x.resize(512);
        x.block(160, 32);
        t.due("just below", x.resize(192), 512);
        t.due("its first byte at m", x.resize(160), -3);
        t.due("count(0)", x.count(0), 192);
        x.resize(224);
        x.block(192, 1);
        t.due("one byte beyond", x.resize(192), -3);
        t.due("free(192)", x.free(192), 1);
        t.due("no longer", x.resize(192), 224);
        x.resize(512);
        x.block(200, 60);
        t.due("in the middle of one", x.resize(224), -3);
        t.due("below its last byte", x.resize(256), -3);
        t.due("behind its last byte", x.resize(288), 512);
    }

    private static void pushes(DueSupport t) {
        GlulxSaves x = new GlulxSaves(1, 16, 128);
        int n = 0;
        for (int v : new int[] {0, -1, LEAST, MOST, 0x80, 0x12345678}) {
            n++;
            t.due("push(" + v + ")", x.push(v), n);
            t.due("count(1)", x.count(1), n);
        }
    }

    private static void pushWithoutRoom(DueSupport t) {
        GlulxSaves x = new GlulxSaves(1, 16, 128);
        for (int k = 1; k <= 40; k++) {
            t.due("push", x.push(k), k);
        }
        t.due("push on 40", x.push(41), -4);
        t.due("count(1)", x.count(1), 40);
        t.due("pop()", x.pop(), 40);
        t.due("push on 39", x.push(42), 40);
        x.save();
        x.restart();
        t.due("push behind restart", x.push(1), 1);
        x.load();
        t.due("push on 40 that came back", x.push(1), -4);
        t.due("pop()", x.pop(), 42);
    }

    private static void pops(DueSupport t) {
        GlulxSaves x = new GlulxSaves(1, 16, 128);
        for (int k = 0; k < 40; k++) {
            x.push(k * -100000001);
        }
        for (int k = 39; k >= 0; k--) {
            t.due("pop", x.pop(), k * -100000001);
            t.due("count(1)", x.count(1), k);
        }
        x.push(LEAST);
        x.push(MOST);
        t.due("pop", x.pop(), MOST);
        t.due("pop", x.pop(), LEAST);
    }

    private static void popOfNone(DueSupport t) {
        GlulxSaves x = new GlulxSaves(1, 16, 128);
        t.duePopThrows("new", x);
        t.due("count(1)", x.count(1), 0);
        x.mark();
        x.save();
        x.push(5);
        t.due("pop()", x.pop(), 5);
        t.duePopThrows("popped", x);
        x.push(5);
        x.restart();
        t.duePopThrows("restarted", x);
        x.push(5);
        x.load();
        t.duePopThrows("loaded", x);
        x.push(5);
        x.undo();
        t.duePopThrows("undone", x);
        t.due("push(6)", x.push(6), 1);
    }

    private static GlulxSaves widest(int end) {
        GlulxSaves x = new GlulxSaves(1, 16, end);
        x.resize(512);
        return x;
    }

    private static void blockLengths(DueSupport t) {
        GlulxSaves x = widest(256);
        for (int length : new int[] {0, -1, 65, 128, LEAST, MOST}) {
            t.due("block(256, " + length + ")", x.block(256, length), -2);
        }
        t.due("block(256, 64)", x.block(256, 64), 1);
        t.due("block(320, 1)", x.block(320, 1), 2);
    }

    private static void blockStarts(DueSupport t) {
        for (int end = 128; end <= 256; end += 32) {
            GlulxSaves x = widest(end);
            for (int start : new int[] {end - 1, end - 64, 16, 0, -1, LEAST}) {
                t.due("block(" + start + ", 64)", x.block(start, 64), -3);
            }
            t.due("block(END - 1, 1)", x.block(end - 1, 1), -3);
            t.due("block(END, 1)", x.block(end, 1), 1);
        }
    }

    private static void blocksBelowM(DueSupport t) {
        GlulxSaves x = new GlulxSaves(1, 16, 128);
        t.due("M is END", x.block(128, 1), -3);
        x.resize(192);
        t.due("one beyond M", x.block(129, 64), -3);
        t.due("at M", x.block(192, 1), -3);
        // A start and a length whose sum goes around to below 0.
        t.due("start max", x.block(MOST, 64), -3);
        t.due("start max", x.block(MOST, 1), -3);
        t.due("start max - 63", x.block(MOST - 63, 64), -3);
        t.due("up to M", x.block(128, 64), 1);
        GlulxSaves y = widest(256);
        t.due("one beyond 512", y.block(449, 64), -3);
        t.due("at 512", y.block(512, 1), -3);
        t.due("the last byte", y.block(511, 1), 1);
    }

    private static void blocksApart(DueSupport t) {
        GlulxSaves x = widest(128);
        x.block(160, 16);
        t.due("the same", x.block(160, 16), -3);
        t.due("inside", x.block(164, 4), -3);
        t.due("around", x.block(150, 40), -3);
        t.due("its last byte", x.block(175, 1), -3);
        t.due("its first byte", x.block(145, 16), -3);
        t.due("the same start, shorter", x.block(160, 1), -3);
        t.due("right behind", x.block(176, 8), 2);
        t.due("right ahead", x.block(144, 16), 3);
        t.due("behind a gap", x.block(192, 64), 4);
        t.due("between, too long", x.block(184, 9), -3);
        t.due("between", x.block(184, 8), 5);
        t.due("count(2)", x.count(2), 5);
    }

    private static void blocksWithoutRoom(DueSupport t) {
        GlulxSaves x = widest(256);
        for (int k = 0; k < 8; k++) {
            t.due("block", x.block(480 - 16 * k, 8), k + 1);
        }
        t.due("a ninth", x.block(488, 8), -4);
        t.due("count(2)", x.count(2), 8);
        t.due("free", x.free(416), 8);
        t.due("room again", x.block(488, 8), 8);
        t.due("a ninth", x.block(416, 8), -4);
    }

    private static void frees(DueSupport t) {
        GlulxSaves x = widest(128);
        x.block(300, 5);
        x.block(128, 1);
        x.block(448, 64);
        t.due("the middle one", x.free(300), 5);
        t.due("count(2)", x.count(2), 2);
        t.due("its room again", x.block(300, 9), 3);
        t.due("the first one", x.free(128), 1);
        t.due("the last one", x.free(448), 64);
        t.due("the only one", x.free(300), 9);
        t.due("count(2)", x.count(2), 0);
    }

    private static void freeOfNone(DueSupport t) {
        GlulxSaves x = widest(128);
        t.due("free(0) of none", x.free(0), -1);
        x.block(200, 6);
        for (int start : new int[] {199, 201, 205, 206, 0, -1, LEAST, MOST}) {
            t.due("free(" + start + ")", x.free(start), -1);
        }
        t.due("free(200)", x.free(200), 6);
        t.due("free(200) again", x.free(200), -1);
    }

    /** Which bytes a restart leaves tells the span. */
    private static void protectedSpan(DueSupport t) {
        GlulxSaves x = new GlulxSaves(1, 16, 128);
        t.due("protect(20, 2)", x.protect(20, 2), 1);
        dueSpan(t, x, 20, 22);
        t.due("protect(126, 300)", x.protect(126, 300), 1);
        dueSpan(t, x, 126, 128);
        t.due("protect(0, 18)", x.protect(0, 18), 1);
        dueSpan(t, x, 16, 18);
    }

    private static void protectedBeyondM(DueSupport t) {
        GlulxSaves x = new GlulxSaves(1, 16, 128);
        t.due("protect(200, 312)", x.protect(200, 312), 1);
        x.resize(512);
        x.save();
        for (int i : new int[] {199, 200, 511}) {
            x.poke(i, 9);
        }
        x.load();
        t.due("the byte ahead", x.peek(199), 0);
        t.due("its first byte", x.peek(200), 9);
        t.due("its last byte", x.peek(511), 9);
        x.restart();
        t.due("beyond END", x.resize(512), 128);
        t.due("a new byte", x.peek(200), 0);
    }

    private static void protectedNone(DueSupport t) {
        GlulxSaves x = new GlulxSaves(1, 16, 128);
        x.protect(20, 2);
        t.due("protect(20, 0)", x.protect(20, 0), 1);
        dueSpan(t, x, 0, 0);
        t.due("protect(20, 1)", x.protect(20, 1), 1);
        dueSpan(t, x, 20, 21);
    }

    private static void protectedPlaces(DueSupport t) {
        GlulxSaves x = new GlulxSaves(1, 16, 128);
        x.protect(20, 2);
        for (int place : new int[] {-1, 512, 513, LEAST, MOST}) {
            t.due("protect(" + place + ", 0)", x.protect(place, 0), -2);
            t.due("protect(" + place + ", 1)", x.protect(place, 1), -2);
        }
        dueSpan(t, x, 20, 22);
        t.due("protect(0, 512)", x.protect(0, 512), 1);
        dueSpan(t, x, 16, 128);
        t.due("protect(511, 512)", x.protect(511, 512), 1);
        dueSpan(t, x, 0, 0);
    }

    private static void protectedNumbers(DueSupport t) {
        GlulxSaves x = new GlulxSaves(1, 16, 128);
        x.protect(20, 2);
        for (int n : new int[] {-1, 513, LEAST, MOST}) {
            t.due("protect(0, " + n + ")", x.protect(0, n), -2);
            t.due("protect(511, " + n + ")", x.protect(511, n), -2);
        }
        dueSpan(t, x, 20, 22);
        t.due("protect(127, 512)", x.protect(127, 512), 1);
        dueSpan(t, x, 127, 128);
    }

    private static void dueSpan(DueSupport t, GlulxSaves x, int from, int behind) {
        int[] near = {16, 17, 18, 19, 20, 21, 22, 125, 126, 127};
        for (int i : near) {
            x.poke(i, original(1, 128, i) ^ 255);
        }
        x.restart();
        for (int i : near) {
            int xored = i >= from && i < behind ? 255 : 0;
            t.due("stays " + i, x.peek(i), original(1, 128, i) ^ xored);
        }
    }
}
