import java.util.Arrays;

/** Promises 11 and 12: what is read, every fault with its place, and which of several counts. */
public final class LoadTest {
    private static final DueSupport t = new DueSupport();
    private static final int SEED = 6;
    private static final int RAM = 48;
    private static final int END = 160;
    private static final byte[] HEAD = DueSupport.head(SEED, END);
    private static final byte[] MEMORY = DueSupport.chunk("CMem", DueSupport.fours(224));
    private static final byte[] STACK = DueSupport.chunk("Stks", DueSupport.fours(8, 9));
    private static final byte[] BLOCKS = DueSupport.chunk("MAll", DueSupport.fours(2, 160, 8, 168, 8));

    public static void main(String[] args) {
        faultBounds();
        readWhole();
        readWithProtected();
        front();
        everyCut();
        heads();
        seconds();
        missing();
        lengths();
        memories();
        blocks();
        others();
        othersAreKept();
        orderInAChunk();
        latestFaultStays();
        t.finish("LoadTest");
    }

    /** An object with something of everything, so that a change by a refused file would show. */
    private static GlulxSaves busy() {
        GlulxSaves x = new GlulxSaves(SEED, RAM, END);
        x.resize(192);
        x.poke(60, 1);
        x.push(77);
        x.block(170, 5);
        x.mark();
        return x;
    }

    private static void fault(String name, byte[] file, int fault, int place) {
        t.dueFault(name, busy(), file, fault, place);
    }

    private static byte[] form(byte[]... chunks) {
        return DueSupport.form(chunks);
    }

    private static void faultBounds() {
        GlulxSaves x = new GlulxSaves(SEED, RAM, END);
        t.due("fault(0)", x.fault(0), -3);
        t.due("fault(1)", x.fault(1), -3);
        t.due("fault(2)", x.fault(2), -2);
        t.due("fault(-1)", x.fault(-1), -2);
        t.due("load() of none", x.load(), -11);
        t.due("fault(0)", x.fault(0), 1);
        t.due("fault(1)", x.fault(1), 0);
        t.due("fault(2)", x.fault(2), -2);
    }

    private static void readWhole() {
        GlulxSaves x = busy();
        byte[] memory = DueSupport.chunk("CMem", DueSupport.fours(224),
            DueSupport.bytes(0x81, 0, 0, 0xFF, 0, 171, 3));
        t.dueLoads("whole", x, form(HEAD, memory, STACK, BLOCKS));
        t.due("count(0)", x.count(0), 224);
        for (int i = 0; i < 224; i++) {
            int xored = i == 48 ? 0x81 : i == 50 ? 0xFF : i == 223 ? 3 : 0;
            t.due("peek(" + i + ")", x.peek(i), DueSupport.original(SEED, END, i) ^ xored);
        }
        t.due("count(1)", x.count(1), 2);
        t.due("pop()", x.pop(), 9);
        t.due("pop()", x.pop(), 8);
        t.due("free(168)", x.free(168), 8);
        t.due("free(160)", x.free(160), 8);
        t.due("free(170)", x.free(170), -1);
        t.due("rows stay", x.count(4), 1);
        t.due("the file stays", x.count(3), form(HEAD, memory, STACK, BLOCKS).length);
        t.dueLoads("no blocks, another row", x, form(HEAD, STACK, MEMORY));
        t.due("count(2)", x.count(2), 0);
    }

    private static void readWithProtected() {
        GlulxSaves x = busy();
        x.poke(191, 44);
        x.poke(190, 45);
        x.protect(191, 100);
        byte[] memory = DueSupport.chunk("CMem", DueSupport.fours(224),
            DueSupport.bytes(0, 141, 2, 3, 4, 5));
        t.dueLoads("protected", x, form(HEAD, memory, STACK));
        t.due("not protected", x.peek(190), 2);
        t.due("protected, below both", x.peek(191), 44);
        t.due("protected, new", x.peek(192), 4);
        t.due("protected, new", x.peek(193), 5);
        x.poke(193, 66);
        t.dueLoads("a smaller one", x, form(HEAD, DueSupport.chunk("CMem", DueSupport.fours(192)), STACK));
        t.due("protected, below both", x.peek(191), 44);
        t.due("beyond", x.peek(192), -1);
        t.dueLoads("a larger one", x, form(HEAD, memory, STACK));
        t.due("was not below M", x.peek(193), 5);
        t.due("protect", x.protect(0, 512), 1);
        x.poke(48, 1);
        t.dueLoads("all", x, form(HEAD, MEMORY, STACK));
        t.due("all stays", x.peek(48), 1);
        t.due("all stays", x.peek(193), 5);
    }

    private static void front() {
        byte[] good = form(HEAD, MEMORY, STACK);
        for (int i = 0; i < 4; i++) {
            fault("FORM " + i, with(good, i, 'x'), 2, i);
            fault("IFZS " + i, with(good, 8 + i, 'x'), 2, 8 + i);
            fault("FORM and its length", with(with(good, i, 'x'), 4, 1), 2, i);
            fault("FORM, cut behind", Arrays.copyOf(with(good, i, 'x'), i + 1), 2, i);
        }
        fault("length above", with(good, 7, good.length - 7), 5, 4);
        fault("length below", with(good, 7, good.length - 9), 5, 4);
        fault("length below 0", with(good, 4, 0x80), 5, 4);
        fault("length, then IFZS", with(with(good, 7, 1), 8, 'x'), 5, 4);
        fault("IFZS, cut behind", seal(Arrays.copyOf(with(good, 9, 'x'), 10)), 2, 9);
        fault("FORM alone", DueSupport.letters("FORM"), 1, 4);
        fault("half a length", DueSupport.join(DueSupport.letters("FORM"), new byte[3]), 1, 7);
        fault("no IFZS", DueSupport.join(DueSupport.letters("FORM"), new byte[4]), 1, 8);
        fault("8 bytes, a wrong length", DueSupport.join(DueSupport.letters("FORM"), DueSupport.fours(4)), 5, 4);
        fault("no chunks", form(), 8, 12);
    }

    /** Whole chunks alone let a file go on; where one ends, what lacks at the end counts. */
    private static void everyCut() {
        byte[] good = form(HEAD, MEMORY, STACK, BLOCKS);
        int afterStack = good.length - BLOCKS.length;
        for (int n = 0; n < good.length; n++) {
            byte[] file = n < 8 ? Arrays.copyOf(good, n) : seal(Arrays.copyOf(good, n));
            if (n == afterStack) {
                t.dueLoads("cut at " + n, busy(), file);
            } else {
                boolean whole = n == 12 || n == 12 + HEAD.length || n == afterStack - STACK.length;
                fault("cut at " + n, file, whole ? 8 : 1, n);
            }
        }
    }

    private static void heads() {
        byte[] good = form(HEAD, MEMORY, STACK);
        for (int i = 0; i < 16; i++) {
            fault("head " + i, with(good, 20 + i, good[20 + i] ^ 0x80), 3, 20 + i);
        }
        fault("the first of two", with(with(good, 22, good[22] ^ 1), 30, good[30] ^ 1), 3, 22);
        fault("of another story", form(DueSupport.head(SEED + 1, END), MEMORY, STACK), 3, 20);
    }

    private static void seconds() {
        int end = form(HEAD, MEMORY, STACK, BLOCKS).length;
        byte[][] four = {HEAD, MEMORY, STACK, BLOCKS};
        for (byte[] second : four) {
            fault("second", form(HEAD, MEMORY, STACK, BLOCKS, second), 4, end);
            byte[] lettersAlone = Arrays.copyOf(second, 4);
            fault("second, letters alone", form(HEAD, MEMORY, STACK, BLOCKS, lettersAlone), 4, end);
            byte[] longer = with(second, 4, 0xFF);
            fault("second, then its length", form(HEAD, MEMORY, STACK, BLOCKS, longer), 4, end);
        }
        fault("second, empty", form(HEAD, DueSupport.chunk("Stks"), DueSupport.chunk("Stks"), MEMORY), 4, 44);
    }

    private static void missing() {
        fault("no head ahead of CMem", form(MEMORY, HEAD, STACK), 8, 12);
        fault("no head ahead of Stks", form(STACK, HEAD, MEMORY), 8, 12);
        fault("no head ahead of MAll", form(BLOCKS, HEAD, MEMORY, STACK), 8, 12);
        fault("no head, letters alone", form(DueSupport.letters("Stks")), 8, 12);
        fault("no memory ahead of MAll", form(HEAD, BLOCKS, MEMORY, STACK), 8, 36);
        fault("no memory, then its length", form(HEAD, with(BLOCKS, 4, 0xFF)), 8, 36);
        fault("no memory at the end", form(HEAD, STACK), 8, form(HEAD, STACK).length);
        fault("no stack at the end", form(HEAD, MEMORY, BLOCKS), 8, form(HEAD, MEMORY, BLOCKS).length);
        fault("others alone", form(DueSupport.chunk("abcd")), 8, 20);
        t.dueLoads("MAll ahead of Stks", busy(), form(HEAD, MEMORY, BLOCKS, STACK));
    }

    private static void lengths() {
        for (int n : new int[] {0, 15, 17, 32, -1, -16, Integer.MIN_VALUE}) {
            fault("IFhd " + n, form(raw("IFhd", n, 16)), 5, 16);
        }
        for (int n : new int[] {0, 3, -1, Integer.MIN_VALUE}) {
            fault("CMem " + n, form(HEAD, raw("CMem", n, 16)), 5, 40);
        }
        for (int n : new int[] {1, 2, 3, 6, 161, 164, -4, Integer.MIN_VALUE, Integer.MAX_VALUE}) {
            fault("Stks " + n, form(HEAD, raw("Stks", n, 16)), 5, 40);
        }
        int behind = 36 + MEMORY.length;
        for (int n : new int[] {0, 4, 8, 11, 13, 16, 18, 24, 64, 72, 76, -4, Integer.MIN_VALUE}) {
            fault("MAll " + n, form(HEAD, MEMORY, raw("MAll", n, 16)), 5, behind + 4);
        }
        for (int n : new int[] {-1, -2, Integer.MIN_VALUE}) {
            fault("other " + n, form(raw("abcd", n, 16)), 5, 16);
        }
        byte[] huge = form(HEAD, raw("CMem", Integer.MAX_VALUE, 16));
        fault("CMem max", huge, 1, huge.length);
        byte[] lacking = form(HEAD, raw("CMem", 5, 5));
        fault("the 0 behind lacks", lacking, 1, lacking.length);
        GlulxSaves x = busy();
        int[] ints = new int[40];
        Arrays.fill(ints, -3);
        t.dueLoads("Stks 160", x, form(HEAD, MEMORY, DueSupport.chunk("Stks", DueSupport.fours(ints))));
        t.due("count(1)", x.count(1), 40);
        t.dueLoads("Stks 0", x, form(HEAD, MEMORY, DueSupport.chunk("Stks")));
        t.due("count(1)", x.count(1), 0);
    }

    private static byte[] memory(int m, int... inside) {
        return DueSupport.chunk("CMem", DueSupport.fours(m), DueSupport.bytes(inside));
    }

    private static void memories() {
        for (int m : new int[] {0, 128, 159, 161, 176, 513, 544, -160, Integer.MIN_VALUE, Integer.MAX_VALUE}) {
            fault("M " + m, form(HEAD, memory(m, 0), STACK), 6, 44);
        }
        for (int m = 160; m <= 512; m += 32) {
            GlulxSaves x = busy();
            t.dueLoads("M " + m, x, form(HEAD, memory(m), STACK));
            t.due("count(0)", x.count(0), m);
            t.due("peek", x.peek(m - 1), m == 160 ? DueSupport.original(SEED, END, 159) : 0);
        }
        // 112 bytes from RAM up to END
        t.dueLoads("0s up to M", busy(), form(HEAD, memory(160, 0, 111), STACK));
        t.dueLoads("a byte up to M", busy(), form(HEAD, memory(160, 0, 110, 1), STACK));
        fault("0s beyond M", form(HEAD, memory(160, 0, 112), STACK), 6, 48);
        fault("more 0s beyond M", form(HEAD, memory(160, 7, 0, 99, 0, 255), STACK), 6, 51);
        fault("a byte beyond M", form(HEAD, memory(160, 0, 111, 1), STACK), 6, 50);
        fault("a second byte beyond M", form(HEAD, memory(160, 0, 110, 1, 2), STACK), 6, 51);
        fault("0s at M", form(HEAD, memory(160, 0, 111, 0, 0), STACK), 6, 50);
        fault("a 0 without a number", form(HEAD, memory(160, 0), STACK), 6, 48);
        fault("a 0 without a number, even", form(HEAD, memory(160, 5, 0), STACK), 6, 49);
        fault("a 0 without a number, at M", form(HEAD, memory(160, 0, 111, 0), STACK), 6, 50);
        t.dueLoads("256 0s", busy(), form(HEAD, memory(512, 0, 255, 0, 206, 9), STACK));
        fault("beyond 512", form(HEAD, memory(512, 0, 255, 0, 206, 9, 9), STACK), 6, 53);
        byte[] all = new byte[464];
        Arrays.fill(all, (byte) 1);
        GlulxSaves x = busy();
        t.dueLoads("all bytes", x, form(HEAD, DueSupport.chunk("CMem", DueSupport.fours(512), all), STACK));
        t.due("peek(511)", x.peek(511), 1);
        t.due("peek(48)", x.peek(48), DueSupport.original(SEED, END, 48) ^ 1);
        t.due("peek(47)", x.peek(47), DueSupport.original(SEED, END, 47));
    }

    private static void blocks() {
        int[][] bad = {
            {159, 1}, {160, 0}, {160, 65}, {160, -1}, {224, 1}, {223, 2}, {161, 64}, {-1, 1},
            {Integer.MAX_VALUE, 64}, {Integer.MIN_VALUE, 64}, {160, Integer.MAX_VALUE}, {160, Integer.MIN_VALUE}};
        int how = 36 + MEMORY.length + 8;
        for (int[] b : bad) {
            fault("block " + b[0] + " " + b[1], form(HEAD, MEMORY, STACK, mall(1, b[0], b[1])),
                7, how + STACK.length + 4);
        }
        fault("how many, fewer", form(HEAD, MEMORY, mall(1, 160, 8, 168, 8)), 7, how);
        fault("how many, more", form(HEAD, MEMORY, mall(3, 160, 8, 168, 8)), 7, how);
        fault("how many, ahead of a block", form(HEAD, MEMORY, mall(-1, 0, 0)), 7, how);
        fault("the same twice", form(HEAD, MEMORY, mall(2, 160, 8, 160, 8)), 7, how + 12);
        fault("they meet", form(HEAD, MEMORY, mall(2, 160, 9, 168, 8)), 7, how + 12);
        fault("not in row", form(HEAD, MEMORY, mall(2, 180, 8, 160, 8)), 7, how + 12);
        fault("the third", form(HEAD, MEMORY, mall(3, 160, 8, 170, 8, 169, 1)), 7, how + 20);
        fault("of M as CMem tells it", form(HEAD, memory(160), mall(1, 170, 5)), 7, how + 4);
        GlulxSaves x = busy();
        int[] eight = new int[17];
        eight[0] = 8;
        for (int k = 0; k < 8; k++) {
            eight[1 + 2 * k] = 160 + 8 * k;
            eight[2 + 2 * k] = 8;
        }
        t.dueLoads("eight, side by side", x, form(HEAD, MEMORY, STACK, mall(eight)));
        t.due("count(2)", x.count(2), 8);
        t.dueLoads("up to M", x, form(HEAD, MEMORY, STACK, mall(1, 160, 64)));
        t.due("count(2)", x.count(2), 1);
        eight[16] = 9;
        eight[15] = 216;
        fault("the eighth", form(HEAD, MEMORY, mall(eight)), 7, how + 4 + 56);
    }

    private static byte[] mall(int... values) {
        return DueSupport.chunk("MAll", DueSupport.fours(values));
    }

    private static void others() {
        byte[] other = DueSupport.chunk("abcd", new byte[2]);
        byte[] four = DueSupport.join(other, other, other, other);
        fault("a fifth", form(four, HEAD, MEMORY, STACK, other), 9, form(four, HEAD, MEMORY, STACK).length);
        fault("a fifth, but below 0 first", form(four, raw("abcd", -2, 2)), 5, 12 + four.length + 4);
        fault("a fifth, ahead of what lacks", form(four, raw("abcd", 50, 2)), 9, 12 + four.length);
        byte[] noLength = form(four, DueSupport.letters("abcd"));
        fault("a fifth without a length", noLength, 1, noLength.length);
        fault("61 bytes", form(HEAD, DueSupport.chunk("abcd", new byte[61])), 9, 36);
        fault("61 bytes that lack", form(HEAD, raw("abcd", 61, 0)), 9, 36);
        fault("most bytes", form(HEAD, raw("abcd", Integer.MAX_VALUE, 0)), 9, 36);
        byte[] lacking = form(HEAD, raw("abcd", 60, 59));
        fault("60 bytes that lack", lacking, 1, lacking.length);
        byte[] padding = form(HEAD, DueSupport.join(raw("abcd", 3, 3), DueSupport.bytes(1)), MEMORY, STACK);
        fault("a byte behind", padding, 2, 36 + 11);
        byte[] half = form(HEAD, MEMORY, STACK, DueSupport.bytes(65));
        fault("a letter alone", half, 1, half.length);
        GlulxSaves x = busy();
        t.dueLoads("60 bytes", x, form(HEAD, DueSupport.chunk("abcd", new byte[60]), MEMORY, STACK));
        t.due("count(6)", x.count(6), 60);
        t.dueLoads("near the four", x, form(DueSupport.chunk("IFHD"), DueSupport.chunk("CMeM"),
            DueSupport.chunk("stks"), DueSupport.chunk("FORM"), HEAD, MEMORY, STACK));
        t.due("count(5)", x.count(5), 4);
        t.due("count(6)", x.count(6), 0);
        t.dueLoads("none", x, form(HEAD, MEMORY, STACK));
        t.due("count(5)", x.count(5), 0);
    }

    private static void othersAreKept() {
        byte[] one = DueSupport.chunk("\u00ff\u0000\u0080a", DueSupport.bytes(1, 2, 255));
        byte[] two = DueSupport.chunk("none");
        byte[] three = DueSupport.chunk("none", DueSupport.bytes(7, 0, 0, 0));
        GlulxSaves x = new GlulxSaves(SEED, RAM, END);
        t.dueLoads("others", x, form(one, HEAD, two, MEMORY, BLOCKS, three, STACK));
        x.save();
        t.dueFile("others behind", x, form(HEAD, MEMORY, STACK, BLOCKS, one, two, three));
        t.dueFault("a fault", x, form(DueSupport.chunk("more"), HEAD), 8, 44);
        x.mark();
        x.restart();
        x.undo();
        x.save();
        t.dueFile("others stay", x, form(HEAD, MEMORY, STACK, BLOCKS, one, two, three));
    }

    private static void orderInAChunk() {
        byte[] odd = raw("CMem", 5, 5);
        byte[] good = form(HEAD, DueSupport.join(odd, DueSupport.bytes(1)), STACK);
        fault("the byte behind, then what is inside", good, 2, 36 + 8 + 5);
        fault("lacking, then what is inside", form(HEAD, raw("CMem", 8, 7)), 1, form(HEAD, raw("CMem", 8, 7)).length);
        fault("the length, then lacking", form(raw("IFhd", 14, 2)), 5, 16);
        byte[] cut = form(HEAD, raw("Stks", 8, 7));
        fault("lacking", cut, 1, cut.length);
        fault("the first chunk's fault", form(HEAD, memory(1), STACK, STACK), 6, 44);
        byte[] half = form(HEAD, DueSupport.letters("CMem"), DueSupport.bytes(255, 255, 255));
        fault("half a length", half, 1, half.length);
    }

    private static void latestFaultStays() {
        GlulxSaves x = new GlulxSaves(SEED, RAM, END);
        t.due("load() of none", x.load(), -11);
        t.dueLoads("a good one", x, form(HEAD, MEMORY, STACK));
        t.due("fault(0)", x.fault(0), 1);
        t.due("fault(1)", x.fault(1), 0);
        x.restart();
        x.alter(0, 1);
        t.due("load()", x.load(), -12);
        t.due("fault(0)", x.fault(0), 2);
        t.due("fault(1)", x.fault(1), 0);
    }

    private static byte[] raw(String name, int length, int bytes) {
        return DueSupport.join(DueSupport.letters(name), DueSupport.fours(length), new byte[bytes]);
    }

    private static byte[] with(byte[] file, int i, int v) {
        byte[] made = file.clone();
        made[i] = (byte) v;
        return made;
    }

    private static byte[] seal(byte[] file) {
        byte[] made = file.clone();
        System.arraycopy(DueSupport.fours(file.length - 8), 0, made, 4, 4);
        return made;
    }
}
