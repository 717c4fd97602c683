import java.util.Arrays;

/** The FAULTS of promises 11 and 12, sentence by sentence: which one, at which place, and what just is none. */
public final class FaultTest extends ReadSupport {
    private static final byte[] MEMORY = memory(224);
    private static final byte[] STACK = stack(8, 9);
    private static final byte[] BLOCKS = mall(2, 160, 8, 168, 8);
    private static final byte[] OTHER = chunk("abcd", bytes(1, 2));
    private static final byte[] GOOD = form(HEAD, MEMORY, STACK, BLOCKS);
    private static final int BEHIND_HEAD = 12 + HEAD.length;
    private static final int BEHIND_MEMORY = BEHIND_HEAD + MEMORY.length;

    public static void main(String[] args) {
        SentenceSupport s = new SentenceSupport("FaultTest", args);
        s.holds("11: 1 a byte lacks: of an empty file", FaultTest::emptyFile);
        s.holds("11: 1 a byte lacks (the place: how many there are)", FaultTest::everyCut);
        s.holds("11: 1 a byte lacks: also one that was there ahead of a cut", FaultTest::lackingBehindACut);
        s.holds("11: 2 a letter of FORM, IFZS is another one", FaultTest::frontLetters);
        s.holds("11: 2 a byte behind an odd CHUNK is not 0", FaultTest::byteBehind);
        s.holds("11: 3 a byte of IFhd is not HEAD's", FaultTest::heads);
        s.holds("11: 4 a second CHUNK of the four (at its letters)", FaultTest::seconds);
        s.holds("11: 5 at a LENGTH: it is below 0", FaultTest::lengthsBelow0);
        s.holds("11: 5 the first one is not what comes behind it", FaultTest::firstLength);
        s.holds("11: 5 the first one is looked at ahead of IFZS", FaultTest::firstLengthAhead);
        s.holds("11: 5 IFhd 16", FaultTest::headLengths);
        s.holds("11: 5 CMem 4 and more", FaultTest::memoryLengths);
        s.holds("11: 5 Stks 4 times up to 40", FaultTest::stackLengths);
        s.holds("11: 5 MAll 12 to 68 and 4 more than 8 times something", FaultTest::blockLengths);
        s.holds("11: 6 at its M: not END to 512 by 32s", FaultTest::memorySizes);
        s.holds("11: 6 at a byte that goes beyond M", FaultTest::bytesBeyond);
        s.holds("11: 6 of a 0: at that", FaultTest::zerosBeyond);
        s.holds("11: 6 a 0 without a number behind it in its CHUNK", FaultTest::zeroWithoutNumber);
        s.holds("11: 7 at how many, if that is not so many", FaultTest::howMany);
        s.holds("11: 7 at a BLOCK: a START (END or more)", FaultTest::blockStarts);
        s.holds("11: 7 at a BLOCK: a LENGTH (1 to 64)", FaultTest::lengthsOfBlocks);
        s.holds("11: 7 at a BLOCK: of M as CMem tells it", FaultTest::blocksBelowM);
        s.holds("11: 7 at a BLOCK: in row by STARTS, none meets another one", FaultTest::blocksInRow);
        s.holds("11: 8 at the letters of CMem, Stks, MAll: no IFhd came ahead", FaultTest::noHead);
        s.holds("11: 8 of MAll: no CMem", FaultTest::noMemoryAhead);
        s.holds("11: 8 at the end: no CMem, no Stks", FaultTest::missingAtTheEnd);
        s.holds("11: 9 at the letters of another CHUNK: there are 4 such", FaultTest::fifthOther);
        s.holds("11: 9 its LENGTH is above 60", FaultTest::longOthers);
        s.holds("11: 9 (behind 5)", FaultTest::othersBelow0);
        s.holds("11: of a CHUNK: 4, 8, then 5", FaultTest::lettersAheadOfLength);
        s.holds("11: of a CHUNK: 5, 9, 1 of all its bytes", FaultTest::lengthAheadOfLacking);
        s.holds("11: of a CHUNK: 1 of all its bytes (the 0 behind, too), 2", FaultTest::lackingAheadOfByteBehind);
        s.holds("11: of a CHUNK: 2, and then what is in it", FaultTest::byteBehindAheadOfInside);
        s.holds("11: READ, from the first byte on", FaultTest::firstOfSeveral);
        s.finish();
    }

    private static void fault(DueSupport t, String name, byte[] file, int fault, int place) {
        t.dueFault(name, busy(), file, fault, place);
    }

    private static void loads(DueSupport t, String name, byte[]... chunks) {
        t.dueLoads(name, busy(), form(chunks));
    }

    private static void emptyFile(DueSupport t) {
        GlulxSaves x = new GlulxSaves(SEED, RAM, END);
        t.due("load()", x.load(), -11);
        t.due("fault(0)", x.fault(0), 1);
        t.due("fault(1)", x.fault(1), 0);
        x.save();
        x.cut(0);
        t.due("load() behind cut(0)", x.load(), -11);
        t.due("fault(1)", x.fault(1), 0);
    }

    /** Where a chunk ends a file may end, and then 8 counts; everywhere else a byte lacks. */
    private static void everyCut(DueSupport t) {
        int behindStack = BEHIND_MEMORY + STACK.length;
        for (int n = 0; n < GOOD.length; n++) {
            byte[] file = n < 8 ? Arrays.copyOf(GOOD, n) : seal(Arrays.copyOf(GOOD, n));
            if (n == 12 || n == BEHIND_HEAD || n == BEHIND_MEMORY) {
                fault(t, "cut at " + n, file, 8, n);
            } else if (n != behindStack) {
                fault(t, "cut at " + n, file, 1, n);
            }
        }
        t.dueLoads("cut behind Stks", busy(), seal(Arrays.copyOf(GOOD, behindStack)));
        byte[] letter = form(HEAD, MEMORY, STACK, letters("a"));
        fault(t, "one letter more", letter, 1, letter.length);
        byte[] noLength = form(HEAD, MEMORY, STACK, letters("abcd"));
        fault(t, "letters alone", noLength, 1, noLength.length);
    }

    private static void lackingBehindACut(DueSupport t) {
        byte[] twice = form(HEAD, MEMORY, STACK, BLOCKS, raw("Stks", 0, 0));
        byte[] below0 = form(HEAD, MEMORY, STACK, BLOCKS, raw("abcd", -1, 0));
        for (int n = 1; n < 8; n++) {
            dueBehindACut(t, "a second one", twice, GOOD.length + n, n < 4 ? 1 : 4);
            dueBehindACut(t, "a LENGTH below 0", below0, GOOD.length + n, 1);
        }
        for (int n = 0; n < 4; n++) {
            dueBehindACut(t, "FORM", GOOD, n, 1);
            dueBehindACut(t, "IFZS", GOOD, 8 + n, 1);
        }
    }

    private static void dueBehindACut(DueSupport t, String name, byte[] file, int n, int fault) {
        GlulxSaves x = busy();
        put(x, file);
        x.cut(n);
        x.seal();
        t.due(name + " cut at " + n + ": load()", x.load(), -10 - fault);
        t.due(name + " cut at " + n + ": fault(1)", x.fault(1), fault == 1 ? n : GOOD.length);
    }

    private static void frontLetters(DueSupport t) {
        for (int i = 0; i < 4; i++) {
            fault(t, "FORM " + i, with(GOOD, i, 'x'), 2, i);
            fault(t, "FORM " + i + ", one bit", with(GOOD, i, GOOD[i] ^ 0x20), 2, i);
            fault(t, "IFZS " + i, with(GOOD, 8 + i, 'x'), 2, 8 + i);
            fault(t, "FORM " + i + ", cut behind", Arrays.copyOf(with(GOOD, i, 'x'), i + 1), 2, i);
            fault(t, "IFZS " + i + ", cut behind", seal(Arrays.copyOf(with(GOOD, 8 + i, 'x'), 9 + i)), 2, 8 + i);
        }
        fault(t, "the first of two", with(with(GOOD, 1, 0), 3, 0), 2, 1);
    }

    private static void byteBehind(DueSupport t) {
        byte[] odd = chunk("abcd", bytes(1, 2, 3));
        for (int v : new int[] {1, 128, 255}) {
            fault(t, "of another one", form(HEAD, with(odd, 11, v), MEMORY, STACK), 2, BEHIND_HEAD + 11);
            fault(t, "of CMem", form(HEAD, with(memory(224, 7), 13, v), STACK), 2, BEHIND_HEAD + 13);
            fault(t, "at the end", form(HEAD, MEMORY, STACK, with(odd, 11, v)), 2, BEHIND_MEMORY + STACK.length + 11);
        }
        loads(t, "it is 0", HEAD, odd, memory(224, 7), STACK, odd);
        loads(t, "behind an even one comes a letter", HEAD, OTHER, memory(224, 7, 8), STACK);
    }

    private static void heads(DueSupport t) {
        for (int i = 0; i < 16; i++) {
            fault(t, "head " + i, with(GOOD, 20 + i, GOOD[20 + i] ^ 0x80), 3, 20 + i);
            fault(t, "head " + i, with(GOOD, 20 + i, GOOD[20 + i] + 1), 3, 20 + i);
        }
        fault(t, "the first of two", with(with(GOOD, 22, GOOD[22] ^ 1), 30, GOOD[30] ^ 1), 3, 22);
        fault(t, "of another story", form(head(SEED + 1, END), MEMORY, STACK), 3, 20);
        loads(t, "of a story with the same one", head(SEED + 256, 256), MEMORY, STACK);
    }

    private static void seconds(DueSupport t) {
        for (byte[] second : new byte[][] {HEAD, MEMORY, STACK, BLOCKS}) {
            fault(t, "second", form(HEAD, MEMORY, STACK, BLOCKS, second), 4, GOOD.length);
            fault(t, "second, behind another one", form(HEAD, MEMORY, STACK, BLOCKS, OTHER, second),
                4, GOOD.length + OTHER.length);
            fault(t, "second, letters alone", form(HEAD, MEMORY, STACK, BLOCKS, Arrays.copyOf(second, 4)),
                4, GOOD.length);
        }
        fault(t, "second head at once", form(HEAD, HEAD, MEMORY, STACK), 4, BEHIND_HEAD);
        fault(t, "second, empty", form(HEAD, stack(), stack(), MEMORY), 4, BEHIND_HEAD + 8);
        loads(t, "a second one of the others", HEAD, OTHER, OTHER, MEMORY, STACK);
    }

    private static void lengthsBelow0(DueSupport t) {
        for (int n : new int[] {-1, -2, -4, -16, LEAST, LEAST + 16}) {
            fault(t, "the first " + n, join(letters("FORM"), fours(n), letters("IFZS")), 5, 4);
            fault(t, "IFhd " + n, form(raw("IFhd", n, 16)), 5, 16);
            fault(t, "CMem " + n, form(HEAD, raw("CMem", n, 16)), 5, BEHIND_HEAD + 4);
            fault(t, "Stks " + n, form(HEAD, raw("Stks", n, 16)), 5, BEHIND_HEAD + 4);
            fault(t, "MAll " + n, form(HEAD, MEMORY, raw("MAll", n, 16)), 5, BEHIND_MEMORY + 4);
            fault(t, "another one " + n, form(raw("abcd", n, 16)), 5, 16);
        }
        loads(t, "another one 0", HEAD, MEMORY, STACK, chunk("abcd"));
    }

    private static void firstLength(DueSupport t) {
        int behind = GOOD.length - 8;
        for (int n : new int[] {behind - 1, behind + 1, behind - 8, behind + 8, 0, LEAST | behind, MOST}) {
            fault(t, "the first " + n, join(letters("FORM"), fours(n), Arrays.copyOfRange(GOOD, 8, GOOD.length)), 5, 4);
        }
        fault(t, "8 bytes, 4", join(letters("FORM"), fours(4)), 5, 4);
        fault(t, "8 bytes, 0", join(letters("FORM"), fours(0)), 1, 8);
        t.dueLoads("just so many", busy(), GOOD);
    }

    private static void firstLengthAhead(DueSupport t) {
        fault(t, "and IFZS another one", with(with(GOOD, 7, 1), 8, 'x'), 5, 4);
        fault(t, "and IFZS lacks", join(letters("FORM"), fours(1)), 5, 4);
        fault(t, "FORM another one", with(with(GOOD, 3, 'x'), 7, 1), 2, 3);
    }

    private static void headLengths(DueSupport t) {
        for (int n : new int[] {0, 1, 14, 15, 17, 18, 32, MOST}) {
            fault(t, "IFhd " + n, form(raw("IFhd", n, 40)), 5, 16);
        }
        loads(t, "IFhd 16", HEAD, MEMORY, STACK);
    }

    private static void memoryLengths(DueSupport t) {
        for (int n : new int[] {0, 1, 2, 3}) {
            fault(t, "CMem " + n, form(HEAD, raw("CMem", n, 16)), 5, BEHIND_HEAD + 4);
        }
        loads(t, "CMem 4", HEAD, memory(224), STACK);
        loads(t, "CMem 5", HEAD, memory(224, 1), STACK);
        GlulxSaves x = new GlulxSaves(0, 16, 128);
        t.dueLoads("CMem 748", x, form(head(0, 128), longestMemory(), stack()));
        byte[] huge = form(HEAD, raw("CMem", MOST, 16));
        fault(t, "CMem max", huge, 1, huge.length);
    }

    private static void stackLengths(DueSupport t) {
        for (int n : new int[] {1, 2, 3, 5, 6, 7, 159, 161, 162, 164, 168, MOST, MOST - 3}) {
            fault(t, "Stks " + n, form(HEAD, raw("Stks", n, 168)), 5, BEHIND_HEAD + 4);
        }
        for (int n : new int[] {0, 1, 39, 40}) {
            GlulxSaves x = busy();
            t.dueLoads("Stks of " + n, x, form(HEAD, MEMORY, stack(new int[n])));
            t.due("count(1)", x.count(1), n);
        }
    }

    private static void blockLengths(DueSupport t) {
        for (int n : new int[] {0, 3, 4, 8, 11, 13, 14, 16, 18, 19, 24, 64, 67, 69, 72, 76, MOST, MOST - 3}) {
            fault(t, "MAll " + n, form(HEAD, MEMORY, raw("MAll", n, 76)), 5, BEHIND_MEMORY + 4);
        }
        for (int n : new int[] {1, 2, 7, 8}) {
            GlulxSaves x = busy();
            t.dueLoads("MAll of " + n, x, form(HEAD, MEMORY, STACK, mall(inRow(n))));
            t.due("count(2)", x.count(2), n);
        }
    }

    private static int[] inRow(int n) {
        int[] told = new int[1 + 2 * n];
        told[0] = n;
        for (int k = 0; k < n; k++) {
            told[1 + 2 * k] = 160 + 8 * k;
            told[2 + 2 * k] = 8;
        }
        return told;
    }

    private static void memorySizes(DueSupport t) {
        for (int m : new int[] {0, 128, 159, 161, 176, 511, 513, 544, -160, LEAST, LEAST + 160, MOST, MOST - 31}) {
            fault(t, "M " + m, form(HEAD, memory(m), STACK), 6, BEHIND_HEAD + 8);
        }
        for (int m = 160; m <= 512; m += 32) {
            GlulxSaves x = busy();
            t.dueLoads("M " + m, x, form(HEAD, memory(m), STACK));
            t.due("count(0)", x.count(0), m);
        }
        fault(t, "M, then what goes beyond", form(HEAD, memory(159, 0, 255, 0), STACK), 6, BEHIND_HEAD + 8);
    }

    /** From RAM up to END there are 112 bytes. */
    private static void bytesBeyond(DueSupport t) {
        int told = BEHIND_HEAD + 12;
        loads(t, "the last byte", HEAD, memory(160, 0, 110, 1), STACK);
        fault(t, "a byte at M", form(HEAD, memory(160, 0, 111, 1), STACK), 6, told + 2);
        fault(t, "a second byte at M", form(HEAD, memory(160, 0, 110, 1, 2), STACK), 6, told + 3);
        loads(t, "the last byte of 512", HEAD, memory(512, 0, 255, 0, 206, 9), STACK);
        fault(t, "a byte at 512", form(HEAD, memory(512, 0, 255, 0, 206, 9, 9), STACK), 6, told + 5);
        int[] all = new int[465];
        Arrays.fill(all, 1);
        loads(t, "464 bytes", HEAD, memory(512, Arrays.copyOf(all, 464)), STACK);
        fault(t, "465 bytes", form(HEAD, memory(512, all), STACK), 6, told + 464);
    }

    private static void zerosBeyond(DueSupport t) {
        int told = BEHIND_HEAD + 12;
        loads(t, "0s up to M", HEAD, memory(160, 0, 111), STACK);
        fault(t, "one 0 beyond M", form(HEAD, memory(160, 0, 112), STACK), 6, told);
        fault(t, "256 0s", form(HEAD, memory(160, 7, 0, 99, 0, 255), STACK), 6, told + 3);
        fault(t, "a 0 at M", form(HEAD, memory(160, 0, 111, 0, 0), STACK), 6, told + 2);
        loads(t, "464 0s", HEAD, memory(512, 0, 255, 0, 207), STACK);
        fault(t, "465 0s", form(HEAD, memory(512, 0, 255, 0, 208), STACK), 6, told + 2);
    }

    private static void zeroWithoutNumber(DueSupport t) {
        int told = BEHIND_HEAD + 12;
        fault(t, "alone", form(HEAD, memory(160, 0), STACK), 6, told);
        fault(t, "behind a byte", form(HEAD, memory(160, 5, 0), STACK), 6, told + 1);
        fault(t, "behind 0s", form(HEAD, memory(160, 0, 0, 0), STACK), 6, told + 2);
        fault(t, "at M", form(HEAD, memory(160, 0, 111, 0), STACK), 6, told + 2);
        loads(t, "a 0 with a number that is 0", HEAD, memory(160, 0, 0), STACK);
    }

    private static void howMany(DueSupport t) {
        int how = BEHIND_MEMORY + 8;
        for (int n : new int[] {0, 1, 3, 8, 9, -1, -2, LEAST, LEAST + 2, MOST}) {
            fault(t, "how many " + n, form(HEAD, MEMORY, mall(n, 160, 8, 168, 8)), 7, how);
        }
        fault(t, "ahead of a block", form(HEAD, MEMORY, mall(2, 0, 0)), 7, how);
        loads(t, "so many", HEAD, MEMORY, STACK, mall(2, 160, 8, 168, 8));
    }

    private static void blockFault(DueSupport t, int start, int length) {
        fault(t, "block " + start + " " + length, form(HEAD, MEMORY, mall(1, start, length)),
            7, BEHIND_MEMORY + 12);
    }

    private static void blockStarts(DueSupport t) {
        for (int start : new int[] {159, 128, 48, 0, -1, LEAST}) {
            blockFault(t, start, 1);
            blockFault(t, start, 64);
        }
        loads(t, "block 160 1", HEAD, MEMORY, STACK, mall(1, 160, 1));
    }

    private static void lengthsOfBlocks(DueSupport t) {
        for (int length : new int[] {0, -1, 65, 128, LEAST, MOST}) {
            fault(t, "length " + length, form(HEAD, memory(512), mall(1, 160, length)), 7, BEHIND_MEMORY + 12);
        }
        loads(t, "length 1", HEAD, memory(512), STACK, mall(1, 160, 1));
        loads(t, "length 64", HEAD, memory(512), STACK, mall(1, 160, 64));
    }

    private static void blocksBelowM(DueSupport t) {
        blockFault(t, 224, 1);
        blockFault(t, 223, 2);
        blockFault(t, 161, 64);
        blockFault(t, MOST, 1);
        blockFault(t, MOST, 64);
        blockFault(t, MOST - 63, 64);
        loads(t, "up to M", HEAD, MEMORY, STACK, mall(1, 160, 64));
        loads(t, "the last byte", HEAD, MEMORY, STACK, mall(1, 223, 1));
        // The object has 192 bytes when it reads: a smaller M of the file refuses, a larger one does not.
        fault(t, "M as END", form(HEAD, memory(160), mall(1, 170, 5)), 7, BEHIND_MEMORY + 12);
        loads(t, "beyond the M that was", HEAD, MEMORY, STACK, mall(1, 192, 32));
        int[] eight = inRow(8);
        eight[16] = 9;
        fault(t, "the eighth", form(HEAD, MEMORY, mall(eight)), 7, BEHIND_MEMORY + 12 + 56);
    }

    private static void blocksInRow(DueSupport t) {
        int second = BEHIND_MEMORY + 20;
        fault(t, "the same twice", form(HEAD, MEMORY, mall(2, 160, 8, 160, 8)), 7, second);
        fault(t, "they meet", form(HEAD, MEMORY, mall(2, 160, 9, 168, 8)), 7, second);
        fault(t, "one inside", form(HEAD, MEMORY, mall(2, 160, 32, 170, 2)), 7, second);
        fault(t, "not in row", form(HEAD, MEMORY, mall(2, 180, 8, 160, 8)), 7, second);
        fault(t, "right ahead", form(HEAD, MEMORY, mall(2, 168, 8, 160, 8)), 7, second);
        fault(t, "the third", form(HEAD, MEMORY, mall(3, 160, 8, 170, 8, 169, 1)), 7, second + 8);
        loads(t, "side by side", HEAD, MEMORY, STACK, mall(3, 160, 8, 168, 1, 169, 8));
    }

    private static void noHead(DueSupport t) {
        fault(t, "CMem", form(MEMORY, HEAD, STACK), 8, 12);
        fault(t, "Stks", form(STACK, HEAD, MEMORY), 8, 12);
        fault(t, "MAll", form(BLOCKS, HEAD, MEMORY, STACK), 8, 12);
        for (String name : new String[] {"CMem", "Stks", "MAll"}) {
            fault(t, name + ", letters alone", form(letters(name)), 8, 12);
        }
        fault(t, "behind another one", form(OTHER, STACK), 8, 12 + OTHER.length);
        loads(t, "another one ahead of IFhd", OTHER, HEAD, MEMORY, STACK);
    }

    private static void noMemoryAhead(DueSupport t) {
        fault(t, "at once", form(HEAD, BLOCKS, MEMORY, STACK), 8, BEHIND_HEAD);
        fault(t, "behind Stks", form(HEAD, STACK, BLOCKS, MEMORY), 8, BEHIND_HEAD + STACK.length);
        fault(t, "letters alone", form(HEAD, letters("MAll")), 8, BEHIND_HEAD);
        loads(t, "MAll ahead of Stks", HEAD, MEMORY, BLOCKS, STACK);
        loads(t, "Stks ahead of CMem", HEAD, STACK, MEMORY, BLOCKS);
    }

    private static void missingAtTheEnd(DueSupport t) {
        fault(t, "no chunks", form(), 8, 12);
        fault(t, "IFhd alone", form(HEAD), 8, BEHIND_HEAD);
        fault(t, "no CMem", form(HEAD, STACK), 8, BEHIND_HEAD + STACK.length);
        fault(t, "no Stks", form(HEAD, MEMORY), 8, BEHIND_MEMORY);
        fault(t, "no Stks, but MAll", form(HEAD, MEMORY, BLOCKS), 8, BEHIND_MEMORY + BLOCKS.length);
        fault(t, "others alone", form(OTHER, OTHER), 8, 12 + 2 * OTHER.length);
        loads(t, "no MAll", HEAD, MEMORY, STACK);
    }

    private static void fifthOther(DueSupport t) {
        byte[] four = join(OTHER, OTHER, OTHER, OTHER);
        loads(t, "four", HEAD, four, MEMORY, STACK);
        fault(t, "a fifth at once", form(four, OTHER), 9, 12 + four.length);
        byte[] apart = join(OTHER, HEAD, OTHER, MEMORY, OTHER, STACK, OTHER, BLOCKS);
        fault(t, "a fifth at the end", form(apart, OTHER), 9, 12 + apart.length);
        fault(t, "a fifth without bytes", form(apart, chunk("last")), 9, 12 + apart.length);
        loads(t, "four apart", apart);
        GlulxSaves x = busy();
        t.dueLoads("four", x, form(apart));
        t.dueLoads("four again: those of the file alone count", x, form(apart));
        t.due("count(5)", x.count(5), 4);
    }

    private static void longOthers(DueSupport t) {
        for (int n : new int[] {61, 62, 100}) {
            fault(t, n + " bytes", form(HEAD, chunk("abcd", new byte[n])), 9, BEHIND_HEAD);
        }
        for (int n : new int[] {59, 60}) {
            GlulxSaves x = busy();
            t.dueLoads(n + " bytes", x, form(HEAD, chunk("abcd", new byte[n]), MEMORY, STACK));
            t.due("count(6)", x.count(6), n);
        }
        fault(t, "most bytes", form(HEAD, raw("abcd", MOST, 0)), 9, BEHIND_HEAD);
    }

    private static void othersBelow0(DueSupport t) {
        byte[] four = join(OTHER, OTHER, OTHER, OTHER);
        for (int n : new int[] {-1, -2, LEAST}) {
            fault(t, "a fifth of " + n, form(four, raw("abcd", n, 2)), 5, 12 + four.length + 4);
        }
        byte[] noLength = form(four, letters("abcd"), bytes(255, 255, 255));
        fault(t, "a fifth without a length", noLength, 1, noLength.length);
    }

    private static void lettersAheadOfLength(DueSupport t) {
        for (byte[] second : new byte[][] {HEAD, MEMORY, STACK, BLOCKS}) {
            fault(t, "4, then 5", form(HEAD, MEMORY, STACK, BLOCKS, with(second, 4, 0xFF)), 4, GOOD.length);
        }
        for (String name : new String[] {"CMem", "Stks", "MAll"}) {
            fault(t, "8, then 5: " + name, form(raw(name, -1, 0)), 8, 12);
        }
        fault(t, "8 of MAll, then 5", form(HEAD, raw("MAll", 13, 0)), 8, BEHIND_HEAD);
    }

    private static void lengthAheadOfLacking(DueSupport t) {
        fault(t, "5 of IFhd, then 1", form(raw("IFhd", 18, 0)), 5, 16);
        fault(t, "5 of Stks, then 1", form(HEAD, raw("Stks", 164, 0)), 5, BEHIND_HEAD + 4);
        fault(t, "5 of MAll, then 1", form(HEAD, MEMORY, raw("MAll", 76, 0)), 5, BEHIND_MEMORY + 4);
        fault(t, "9 above 60, then 1", form(raw("abcd", 61, 0)), 9, 12);
        byte[] four = join(OTHER, OTHER, OTHER, OTHER);
        fault(t, "9 of a fifth, then 1", form(four, raw("abcd", 50, 2)), 9, 12 + four.length);
        byte[] lacking = form(raw("abcd", 60, 59));
        fault(t, "1 alone", lacking, 1, lacking.length);
    }

    private static void lackingAheadOfByteBehind(DueSupport t) {
        byte[] noByteBehind = form(HEAD, raw("CMem", 5, 5));
        fault(t, "the 0 behind lacks", noByteBehind, 1, noByteBehind.length);
        byte[] another = form(HEAD, MEMORY, STACK, raw("abcd", 3, 3));
        fault(t, "the 0 behind another one lacks", another, 1, another.length);
        byte[] inside = form(HEAD, raw("CMem", 8, 7));
        fault(t, "1, then what is in it", inside, 1, inside.length);
        byte[] head = form(raw("IFhd", 16, 15));
        fault(t, "1, then 3", head, 1, head.length);
        byte[] blocks = form(HEAD, MEMORY, raw("MAll", 12, 11));
        fault(t, "1, then 7", blocks, 1, blocks.length);
    }

    private static void byteBehindAheadOfInside(DueSupport t) {
        byte[] wrongM = join(raw("CMem", 5, 5), bytes(1));
        fault(t, "2, then M", form(HEAD, wrongM, STACK), 2, BEHIND_HEAD + 13);
        byte[] lonely = with(memory(160, 0), 13, 9);
        fault(t, "2, then a 0 without a number", form(HEAD, lonely, STACK), 2, BEHIND_HEAD + 13);
    }

    private static void firstOfSeveral(DueSupport t) {
        fault(t, "6, then 4", form(HEAD, memory(1), STACK, STACK), 6, BEHIND_HEAD + 8);
        fault(t, "3, then 6", form(head(SEED + 1, END), memory(1), STACK), 3, 20);
        fault(t, "7, then 8 at the end", form(HEAD, MEMORY, mall(1, 0, 0)), 7, BEHIND_MEMORY + 12);
        fault(t, "6, then 1", form(HEAD, memory(160, 0, 112), letters("S")), 6, BEHIND_HEAD + 12);
        byte[] cut = form(HEAD, STACK, letters("CMe"));
        fault(t, "1, then 8 at the end", cut, 1, cut.length);
    }
}
