/** Promises 11 and 12: what a file without a fault brings back, what stays, and what is told of the latest fault. */
public final class LoadTest extends ReadSupport {
    public static void main(String[] args) {
        SentenceSupport s = new SentenceSupport("LoadTest", args);
        s.holds("11: M, BLOCKS, STACK are as it tells; MEMORY, too", LoadTest::whole);
        s.holds("11: FOUR: the highest first, with sign", LoadTest::signs);
        s.holds("11: MEMORY: from RAM up to 512", LoadTest::widestMemory);
        s.holds("11: MEMORY: what is left out is ORIGINAL", LoadTest::leftOut);
        s.holds("11: STACK: 0 and 40 ints", LoadTest::stacks);
        s.holds("11: THE FILE has 1200 bytes at most: its last FOUR", LoadTest::lastFour);
        s.holds("11: BLOCKS: none without MAll", LoadTest::noBlocks);
        s.holds("11: OTHERS (those of THE FILE)", LoadTest::others);
        s.holds("11: OTHERS: letters near the four", LoadTest::nearLetters);
        s.holds("11: PROTECTED bytes that were below M and are below the new one: they stay", LoadTest::protectedBelowBoth);
        s.holds("11: PROTECTED bytes that were not below M do not stay", LoadTest::protectedButNew);
        s.holds("11: PROTECTED bytes that are not below the new M are gone", LoadTest::protectedButGone);
        s.holds("11: else nothing changes", LoadTest::nothingChanges);
        s.holds("11: THE FILE, UNDO, PROTECTED are not what is told", LoadTest::whatStays);
        s.holds("11: what is saved comes back: 1", LoadTest::roundTrip);
        s.holds("12: of the latest FAULT: 0 itself, 1 its place", LoadTest::latestFault);
        s.holds("12: -2", LoadTest::faultBounds);
        s.holds("12: -3: there was none", LoadTest::noFault);
        s.finish();
    }

    private static void whole(DueSupport t) {
        GlulxSaves x = busy();
        t.dueLoads("whole", x, form(HEAD, memory(224, 0x81, 0, 0, 0xFF, 0, 171, 3), stack(8, 9),
            mall(2, 160, 8, 168, 9)));
        t.due("count(0)", x.count(0), 224);
        for (int i = 0; i < 224; i++) {
            int xored = i == 48 ? 0x81 : i == 50 ? 0xFF : i == 223 ? 3 : 0;
            t.due("peek(" + i + ")", x.peek(i), original(SEED, END, i) ^ xored);
        }
        t.due("count(1)", x.count(1), 2);
        t.due("pop()", x.pop(), 9);
        t.due("pop()", x.pop(), 8);
        t.due("count(2)", x.count(2), 2);
        t.due("free(168)", x.free(168), 9);
        t.due("free(160)", x.free(160), 8);
        t.due("free(170)", x.free(170), -1);
    }

    private static void signs(DueSupport t) {
        GlulxSaves x = busy();
        t.dueLoads("ints", x, form(HEAD, memory(160), stack(LEAST, MOST, -1, 0, 128, 0x7F80FF01)));
        for (int v : new int[] {0x7F80FF01, 128, 0, -1, MOST, LEAST}) {
            t.due("pop()", x.pop(), v);
        }
    }

    private static void widestMemory(DueSupport t) {
        int[] all = new int[464];
        for (int i = 0; i < all.length; i++) {
            all[i] = 1 + i % 255;
        }
        GlulxSaves x = busy();
        t.dueLoads("464 bytes", x, form(HEAD, memory(512, all), stack()));
        t.due("peek(47)", x.peek(47), original(SEED, END, 47));
        for (int i : new int[] {48, 49, 159, 160, 161, 400, 510, 511}) {
            t.due("peek(" + i + ")", x.peek(i), original(SEED, END, i) ^ all[i - 48]);
        }
        t.due("peek(512)", x.peek(512), -1);
    }

    private static void leftOut(DueSupport t) {
        GlulxSaves x = new GlulxSaves(SEED, RAM, END);
        x.resize(512);
        for (int i = 48; i < 160; i += 8) {
            x.poke(i, 255 ^ original(SEED, END, i));
        }
        x.poke(160, 1);
        x.poke(511, 2);
        t.dueLoads("nothing told", x, form(HEAD, memory(512), stack()));
        GlulxSaves fresh = new GlulxSaves(SEED, RAM, END);
        fresh.resize(512);
        t.due("hash()", x.hash(), fresh.hash());
    }

    private static void stacks(DueSupport t) {
        int[] ints = new int[40];
        for (int k = 0; k < 40; k++) {
            ints[k] = 1000 - k * 77;
        }
        GlulxSaves x = busy();
        t.dueLoads("40", x, form(HEAD, memory(160), stack(ints)));
        t.due("push on 40", x.push(1), -4);
        for (int k = 39; k >= 0; k--) {
            t.due("pop()", x.pop(), ints[k]);
        }
        x.push(5);
        t.dueLoads("0", x, form(HEAD, memory(160), stack()));
        t.due("count(1)", x.count(1), 0);
        t.duePopThrows("0", x);
    }

    /** Rows of one 0 each make the memory's telling as long as it has to be. */
    private static byte[] longest(byte[] last) {
        byte[] other = chunk("abcd", new byte[60]);
        byte[] ahead = join(HEAD, other, other, other, other);
        return form(ahead, memory(512, new int[1200 - 12 - ahead.length - 12 - last.length]), last);
    }

    private static void lastFour(DueSupport t) {
        int[] ints = new int[40];
        ints[39] = 0x81020304;
        GlulxSaves x = new GlulxSaves(SEED, RAM, END);
        t.dueLoads("an int", x, longest(stack(ints)));
        t.due("count(3)", x.count(3), 1200);
        t.due("pop()", x.pop(), 0x81020304);
        t.dueFault("letters", x, longest(join(stack(), letters("Stks"))), 4, 1196);
        t.dueFault("a LENGTH", busy(), longest(join(stack(), raw("MAll", 0, 0))), 5, 1196);
    }

    private static void noBlocks(DueSupport t) {
        GlulxSaves x = busy();
        t.dueLoads("no MAll", x, form(HEAD, memory(192), stack()));
        t.due("count(2)", x.count(2), 0);
        t.due("free(170)", x.free(170), -1);
        t.due("its room", x.block(160, 32), 1);
    }

    private static void others(DueSupport t) {
        GlulxSaves x = busy();
        byte[] one = chunk("abcd", bytes(1, 2, 3));
        t.dueLoads("two", x, form(one, HEAD, memory(160), stack(), one));
        t.due("count(5)", x.count(5), 2);
        t.due("count(6)", x.count(6), 6);
        t.dueLoads("another one", x, form(HEAD, memory(160), stack(), chunk("last", bytes(9))));
        t.dueSaves("in place of the two", x, form(HEAD, memory(160), stack(), chunk("last", bytes(9))));
        t.dueLoads("none", x, form(HEAD, memory(160), stack()));
        t.due("count(5)", x.count(5), 0);
        t.due("count(6)", x.count(6), 0);
    }

    private static void nearLetters(DueSupport t) {
        GlulxSaves x = busy();
        byte[] file = form(chunk("IFHD"), chunk("CMeM", bytes(1)), chunk("stks"), chunk("FORM"),
            HEAD, memory(160), stack());
        t.dueLoads("near the four", x, file);
        t.due("count(5)", x.count(5), 4);
        t.due("count(6)", x.count(6), 1);
        t.dueLoads("bytes that are no letters", x, form(HEAD, memory(160), stack(),
            chunk("\u0000\u0000\u0000\u0000"), chunk("\u00ff\u00ff\u00ff\u00ff", bytes(255, 255))));
        t.due("count(5)", x.count(5), 2);
    }

    private static void protectedBelowBoth(DueSupport t) {
        GlulxSaves x = busy();
        x.poke(100, 41);
        x.poke(101, 42);
        x.poke(102, 43);
        x.poke(103, 44);
        x.protect(101, 2);
        t.dueLoads("a span", x, form(HEAD, memory(192, 0, 51, 1, 2, 3, 4), stack()));
        t.due("the byte ahead", x.peek(100), original(SEED, END, 100) ^ 1);
        t.due("its first byte", x.peek(101), 42);
        t.due("its last byte", x.peek(102), 43);
        t.due("the byte behind", x.peek(103), original(SEED, END, 103) ^ 4);
        x.protect(0, 512);
        t.dueLoads("all of it", x, form(HEAD, memory(192, 9), stack()));
        t.due("all stays", x.peek(48), original(SEED, END, 48));
        t.due("all stays", x.peek(103), original(SEED, END, 103) ^ 4);
    }

    private static void protectedButNew(DueSupport t) {
        GlulxSaves x = busy();
        x.poke(190, 45);
        x.poke(191, 44);
        x.protect(191, 100);
        t.dueLoads("a larger M", x, form(HEAD, memory(224, 0, 141, 2, 3, 4, 5), stack()));
        t.due("not protected", x.peek(190), 2);
        t.due("the last byte that was", x.peek(191), 44);
        t.due("the first new byte", x.peek(192), 4);
        t.due("a new byte", x.peek(193), 5);
        t.due("a new byte that is not told", x.peek(194), 0);
    }

    private static void protectedButGone(DueSupport t) {
        GlulxSaves x = busy();
        x.poke(159, 43);
        x.poke(160, 44);
        x.poke(191, 45);
        x.free(170);
        x.protect(159, 100);
        t.dueLoads("a smaller M", x, form(HEAD, memory(160), stack()));
        t.due("the last byte", x.peek(159), 43);
        t.due("beyond", x.peek(160), -1);
        t.dueLoads("a larger M", x, form(HEAD, memory(192, 0, 111, 7), stack()));
        t.due("it was not below M", x.peek(160), 7);
        t.due("it was not below M", x.peek(191), 0);
        t.due("it was", x.peek(159), 43);
    }

    private static void nothingChanges(DueSupport t) {
        byte[] one = chunk("abcd", bytes(1, 2, 3));
        GlulxSaves x = new GlulxSaves(SEED, RAM, END);
        byte[] good = form(HEAD, memory(192, 5), stack(7), mall(1, 170, 3), one);
        t.dueLoads("good", x, good);
        byte[] late = form(chunk("more", bytes(9)), HEAD, memory(224, 6), mall(1, 160, 9), stack(1, 2), letters("x"));
        t.dueFault("all is told, then a byte lacks", x, late, 1, late.length);
        t.dueFile("nor the file", x, late);
        t.dueSaves("as it was", x, good);
    }

    private static void whatStays(DueSupport t) {
        GlulxSaves x = busy();
        int marked = x.hash();
        x.protect(60, 1);
        x.poke(60, 2);
        byte[] file = form(HEAD, memory(160), stack());
        t.dueLoads("good", x, file);
        t.dueFile("the file", x, file);
        t.due("rows", x.count(4), 1);
        t.due("protected", x.peek(60), 2);
        x.poke(60, 1);
        t.due("undo()", x.undo(), 0);
        t.due("the row", x.hash(), marked);
        x.restart();
        t.due("protected still", x.peek(60), 1);
    }

    private static void roundTrip(DueSupport t) {
        GlulxSaves x = busy();
        x.poke(48, 0);
        x.poke(159, 0);
        x.poke(191, 200);
        x.push(LEAST);
        x.block(160, 1);
        int saved = x.hash();
        x.save();
        x.restart();
        t.due("load()", x.load(), 1);
        t.due("hash()", x.hash(), saved);
        t.due("load() again", x.load(), 1);
        t.due("hash()", x.hash(), saved);
    }

    private static void latestFault(DueSupport t) {
        GlulxSaves x = new GlulxSaves(SEED, RAM, END);
        t.due("load() of none", x.load(), -11);
        x.save();
        t.due("load() of a good one", x.load(), 1);
        t.due("the latest still: itself", x.fault(0), 1);
        t.due("the latest still: its place", x.fault(1), 0);
        x.alter(9, 1);
        t.due("load()", x.load(), -12);
        t.due("a later one: itself", x.fault(0), 2);
        t.due("a later one: its place", x.fault(1), 9);
        x.restart();
        x.save();
        t.due("other calls leave it: itself", x.fault(0), 2);
        t.due("other calls leave it: its place", x.fault(1), 9);
    }

    private static void faultBounds(DueSupport t) {
        GlulxSaves x = new GlulxSaves(SEED, RAM, END);
        int[] bad = {-1, 2, 3, LEAST, MOST};
        for (int what : bad) {
            t.due("fault(" + what + ") of none", x.fault(what), -2);
        }
        x.load();
        for (int what : bad) {
            t.due("fault(" + what + ")", x.fault(what), -2);
        }
    }

    private static void noFault(DueSupport t) {
        GlulxSaves x = new GlulxSaves(SEED, RAM, END);
        t.due("fault(0)", x.fault(0), -3);
        t.due("fault(1)", x.fault(1), -3);
        x.save();
        x.load();
        t.due("fault(0) behind a good one", x.fault(0), -3);
        t.due("fault(1) behind a good one", x.fault(1), -3);
    }
}
