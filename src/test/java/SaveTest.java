import java.util.Arrays;

/** What is written, and promises 10 and 16 to 22: the file's bytes, counts, the number of it all. */
public final class SaveTest extends FileSupport {
    private static final byte[] HEAD = head(0, 128);

    public static void main(String[] args) {
        SentenceSupport s = new SentenceSupport("SaveTest", args);
        s.holds("10: FORM, how many bytes come behind, IFZS, then CHUNKS", SaveTest::plain);
        s.holds("10: IFhd: HEAD as it is ORIGINAL: the first 16", SaveTest::headBytes);
        s.holds("10: for each byte from RAM up to M what it is xored", SaveTest::xored);
        s.holds("10: up to M: what is no longer below it is not told", SaveTest::noLongerBelowM);
        s.holds("10: of 0s in row up to 256 at a time", SaveTest::zeros);
        s.holds("10: 0s behind the last other one are left out", SaveTest::zerosBehind);
        s.holds("10: a 0 more if that is odd", SaveTest::odd);
        s.holds("10: Stks: FOUR each, the eldest first", SaveTest::stacks);
        s.holds("10: MAll (with BLOCKS alone)", SaveTest::blocksAlone);
        s.holds("10: MAll: by STARTS", SaveTest::blocksByStarts);
        s.holds("10: then the OTHERS, as they came", SaveTest::others);
        s.holds("10: OTHERS: 4 of 60 bytes each", SaveTest::fullOthers);
        s.holds("10: in place of what was", SaveTest::inPlace);
        s.holds("10: THE FILE has 1200 bytes at most", SaveTest::longest);
        s.holds("10: -4: above 1200", SaveTest::tooLong);
        s.holds("16: byte i of THE FILE. -1", SaveTest::atOutside);
        s.holds("17: byte i becomes itself xored with mask", SaveTest::alters);
        s.holds("17: -1", SaveTest::alterOutside);
        s.holds("17: -2: mask 0 to 255", SaveTest::masks);
        s.holds("18: THE FILE keeps its first n bytes: how many went", SaveTest::cuts);
        s.holds("18: -2", SaveTest::cutBounds);
        s.holds("19: the lowest n bytes of w, the highest of them first", SaveTest::mores);
        s.holds("19: n bytes (0 to 8): -2", SaveTest::moreBounds);
        s.holds("19: -4", SaveTest::moreWithoutRoom);
        s.holds("20: the FOUR at place 4 becomes what comes behind it", SaveTest::seals);
        s.holds("20: -3: fewer than 8 bytes", SaveTest::sealOfFew);
        s.holds("21: 0 M to 6 their bytes", SaveTest::counts);
        s.holds("21: -2", SaveTest::countBounds);
        s.holds("22: h is M; each byte, each int, each START and LENGTH by STARTS", SaveTest::hashes);
        s.holds("22: a number of MEMORY, STACK, BLOCKS alone", SaveTest::hashesOfNothingElse);
        s.holds("22: 32 bits, wrapping", SaveTest::hashesWrap);
        s.finish();
    }

    private static GlulxSaves small() {
        return new GlulxSaves(0, 16, 128);
    }

    private static void plain(DueSupport t) {
        GlulxSaves x = new GlulxSaves(4, 16, 192);
        t.dueSaves("plain", x, form(head(4, 192), memory(192), stack()));
        t.due("of 56 bytes 48 come behind", x.at(7), 48);
        t.due("save() again", x.save(), 56);
    }

    private static void headBytes(DueSupport t) {
        for (int seed : new int[] {0, 77, -1, LEAST, MOST}) {
            GlulxSaves x = new GlulxSaves(seed, 16, 256);
            x.poke(16, 1);
            x.save();
            t.due("its length", x.at(19), 16);
            for (int i = 0; i < 16; i++) {
                t.due("seed " + seed + ": head " + i, x.at(20 + i), original(seed, 256, i));
            }
            t.due("then CMem", x.at(36), 'C');
        }
    }

    private static void xored(DueSupport t) {
        GlulxSaves x = new GlulxSaves(-9, 32, 128);
        x.resize(224);
        x.poke(32, original(-9, 128, 32) ^ 0x81);
        x.poke(35, original(-9, 128, 35) ^ 0xFF);
        x.poke(223, 5);
        t.dueSaves("from RAM up to M", x, form(head(-9, 128),
            memory(224, 0x81, 0, 1, 0xFF, 0, 186, 5), stack()));
        x.poke(32, original(-9, 128, 32));
        x.poke(127, 0);
        x.poke(128, 255);
        t.dueSaves("both sides of END", x, form(head(-9, 128),
            memory(224, 0, 2, 0xFF, 0, 90, original(-9, 128, 127), 255, 0, 93, 5), stack()));
    }

    private static void noLongerBelowM(DueSupport t) {
        GlulxSaves x = small();
        byte[] due = form(HEAD, memory(160), stack());
        for (int place : new int[] {160, 191, 511}) {
            x.resize(512);
            x.poke(place, 9);
            x.resize(160);
            t.dueSaves(place + " was written", x, due);
        }
        x.resize(512);
        x.poke(128, 9);
        x.push(5);
        x.block(300, 2);
        x.restart();
        t.dueSaves("restarted", x, form(HEAD, memory(128), stack()));
    }

    private static void zeros(DueSupport t) {
        int[] rows = {1, 2, 255, 256, 257, 495};
        int[][] told = {{0, 0, 9}, {0, 1, 9}, {0, 254, 9}, {0, 255, 9}, {0, 255, 0, 0, 9}, {0, 255, 0, 238, 9}};
        for (int k = 0; k < rows.length; k++) {
            GlulxSaves x = small();
            x.resize(512);
            x.poke(16 + rows[k], 9 ^ original(0, 128, 16 + rows[k]));
            t.dueSaves(rows[k] + " 0s", x, form(HEAD, memory(512, told[k]), stack()));
        }
    }

    private static void zerosBehind(DueSupport t) {
        GlulxSaves x = small();
        x.resize(512);
        t.dueSaves("0s alone", x, form(HEAD, memory(512), stack()));
        x.poke(16, original(0, 128, 16) ^ 3);
        t.dueSaves("495 0s behind one", x, form(HEAD, memory(512, 3), stack()));
        x.poke(510, 4);
        t.dueSaves("one 0 behind one", x, form(HEAD, memory(512, 3, 0, 255, 0, 236, 4), stack()));
    }

    private static void odd(DueSupport t) {
        GlulxSaves x = small();
        x.poke(16, original(0, 128, 16) ^ 1);
        x.save();
        t.due("odd: its LENGTH", x.at(43), 5);
        t.due("odd: a 0 more", x.at(49), 0);
        t.due("odd: then Stks", x.at(50), 'S');
        t.due("odd: the 0 counts behind FORM", x.at(7), 50);
        x.poke(17, original(0, 128, 17) ^ 1);
        x.save();
        t.due("even: its LENGTH", x.at(43), 6);
        t.due("even: then Stks", x.at(50), 'S');
        byte[] one = chunk("abcd", bytes(7));
        t.dueLoads("an odd other", x, form(HEAD, memory(128), stack(), one));
        t.dueSaves("an odd other", x, form(HEAD, memory(128), stack(), one));
    }

    private static void stacks(DueSupport t) {
        GlulxSaves x = small();
        t.dueSaves("none", x, form(HEAD, memory(128), stack()));
        int[] ints = new int[40];
        for (int k = 0; k < 40; k++) {
            ints[k] = k == 0 ? LEAST : k == 1 ? MOST : k == 2 ? -2 : 0x01020304 * k;
            x.push(ints[k]);
        }
        t.dueSaves("40", x, form(HEAD, memory(128), stack(ints)));
        x.pop();
        t.due("39", x.save(), 56 + 4 * 39);
    }

    private static void blocksAlone(DueSupport t) {
        GlulxSaves x = small();
        x.resize(160);
        x.block(130, 1);
        t.dueSaves("one", x, form(HEAD, memory(160), stack(), mall(1, 130, 1)));
        x.free(130);
        t.dueSaves("none", x, form(HEAD, memory(160), stack()));
    }

    private static void blocksByStarts(DueSupport t) {
        GlulxSaves x = small();
        x.resize(512);
        int[] starts = {448, 128, 300, 192, 364, 299, 256, 298};
        for (int start : starts) {
            x.block(start, start % 64 == 0 ? 32 : 1);
        }
        t.dueSaves("8", x, form(HEAD, memory(512), stack(), mall(8,
            128, 32, 192, 32, 256, 32, 298, 1, 299, 1, 300, 1, 364, 1, 448, 32)));
    }

    private static void others(DueSupport t) {
        byte[] one = chunk("\u00ff\u0000\u0080a", bytes(1, 2, 255));
        byte[] two = chunk("none");
        byte[] three = chunk("none", bytes(7, 0, 0, 0));
        byte[] full = new byte[60];
        Arrays.fill(full, (byte) 200);
        byte[] four = chunk("aaaa", full);
        GlulxSaves x = small();
        t.dueLoads("four", x, form(one, HEAD, two, memory(160), mall(1, 128, 2), three, stack(), four));
        t.dueSaves("four", x, form(HEAD, memory(160), stack(), mall(1, 128, 2), one, two, three, four));
        t.dueLoads("none", x, form(HEAD, memory(128), stack()));
        t.due("save()", x.save(), 56);
    }

    private static void fullOthers(DueSupport t) {
        byte[][] four = new byte[4][];
        for (int k = 0; k < 4; k++) {
            byte[] inside = new byte[60];
            for (int i = 0; i < 60; i++) {
                inside[i] = (byte) (60 * k + i + 1);
            }
            four[k] = chunk("abc" + k, inside);
        }
        GlulxSaves x = small();
        byte[] file = form(HEAD, memory(128), stack(), four[0], four[1], four[2], four[3]);
        t.dueLoads("240 bytes", x, file);
        t.due("count(5)", x.count(5), 4);
        t.due("count(6)", x.count(6), 240);
        t.dueSaves("240 bytes", x, file);
    }

    private static void inPlace(DueSupport t) {
        GlulxSaves x = small();
        for (int k = 0; k < 40; k++) {
            x.more(-1, 8);
        }
        byte[] due = form(HEAD, memory(128), stack());
        t.dueSaves("shorter than what was", x, due);
        x.push(1);
        x.poke(16, 0);
        t.dueFile("as it was then", x, due);
        x.cut(3);
        t.dueSaves("longer than what was", x,
            form(HEAD, memory(128, original(0, 128, 16)), stack(1)));
    }

    /** 1072 bytes, and the last other's length to choose, then 4 more for each int. */
    private static GlulxSaves longFile(int lastLength) {
        byte[] other = chunk("abcd", new byte[60]);
        GlulxSaves x = small();
        put(x, form(HEAD, longestMemory(), stack(), other, other, other, chunk("last", new byte[lastLength])));
        x.load();
        return x;
    }

    private static GlulxSaves withInts(GlulxSaves x, int n) {
        for (int k = 0; k < n; k++) {
            x.push(k);
        }
        return x;
    }

    private static void longest(DueSupport t) {
        byte[] other = chunk("abcd", new byte[60]);
        int[] ints = new int[32];
        for (int k = 0; k < 32; k++) {
            ints[k] = k;
        }
        byte[] due = form(HEAD, longestMemory(), stack(ints), other, other, other, chunk("last", new byte[60]));
        GlulxSaves x = withInts(longFile(60), 32);
        t.due("save() of 1200", x.save(), 1200);
        t.due("count(3)", x.count(3), 1200);
        t.due("load() of 1200", x.load(), 1);
        t.due("at(1200)", x.at(1200), -1);
        t.dueLongFile("1200", SaveTest::savedLongest, due);
    }

    private static GlulxSaves savedLongest() {
        GlulxSaves x = withInts(longFile(60), 32);
        x.save();
        return x;
    }

    private static void tooLong(DueSupport t) {
        GlulxSaves x = withInts(longFile(58), 33);
        x.cut(1000);
        t.due("save() of 1202", x.save(), -4);
        t.due("the file stays", x.count(3), 1000);
        t.due("its length stays", x.at(6) * 256 + x.at(7), 1070 - 8);
        t.due("its end stays", x.at(999), 0);
        GlulxSaves y = withInts(longFile(60), 40);
        y.cut(0);
        t.due("save() of 1232", y.save(), -4);
        t.due("no file still", y.count(3), 0);
        for (int k = 0; k < 8; k++) {
            y.pop();
        }
        t.due("save() of 1200 behind a refusal", y.save(), 1200);
        GlulxSaves z = withInts(longFile(60), 33);
        t.due("save() of 1204", z.save(), -4);
    }

    private static void atOutside(DueSupport t) {
        GlulxSaves x = small();
        t.due("at(0) of none", x.at(0), -1);
        x.more(0x01020304F0F1F2F3L, 8);
        t.due("at(0)", x.at(0), 1);
        t.due("at(7)", x.at(7), 0xF3);
        for (int i : new int[] {-1, 8, 1199, 1200, LEAST, MOST}) {
            t.due("at(" + i + ")", x.at(i), -1);
        }
        x.cut(4);
        t.due("at(3)", x.at(3), 4);
        t.due("at(4)", x.at(4), -1);
    }

    private static void alters(DueSupport t) {
        GlulxSaves x = small();
        x.more(0x01020304F0F1F2F3L, 8);
        t.due("alter(4, 255)", x.alter(4, 255), 0x0F);
        t.due("alter(4, 0)", x.alter(4, 0), 0x0F);
        t.due("alter(4, 0x80)", x.alter(4, 0x80), 0x8F);
        t.due("alter(0, 1)", x.alter(0, 1), 0);
        t.due("alter(7, 1)", x.alter(7, 1), 0xF2);
        t.dueFile("altered", x, bytes(0, 2, 3, 4, 0x8F, 0xF1, 0xF2, 0xF2));
    }

    private static void alterOutside(DueSupport t) {
        GlulxSaves x = small();
        t.due("alter(0, 0) of none", x.alter(0, 0), -1);
        t.due("alter(0, 256) of none", x.alter(0, 256), -1);
        x.more(0x0102, 2);
        for (int i : new int[] {-1, 2, 1199, 1200, LEAST, MOST}) {
            t.due("alter(" + i + ", 1)", x.alter(i, 1), -1);
            t.due("alter(" + i + ", -1)", x.alter(i, -1), -1);
        }
        t.dueFile("unaltered", x, bytes(1, 2));
    }

    private static void masks(DueSupport t) {
        GlulxSaves x = small();
        x.more(0x0102, 2);
        for (int mask : new int[] {-1, 256, LEAST, MOST}) {
            t.due("alter(1, " + mask + ")", x.alter(1, mask), -2);
        }
        t.dueFile("unaltered", x, bytes(1, 2));
        t.due("alter(1, 0)", x.alter(1, 0), 2);
        t.due("alter(1, 255)", x.alter(1, 255), 253);
    }

    private static void cuts(DueSupport t) {
        GlulxSaves x = small();
        t.due("cut(0) of none", x.cut(0), 0);
        x.more(0x0102030405060708L, 8);
        t.due("cut(8)", x.cut(8), 0);
        t.due("cut(5)", x.cut(5), 3);
        t.dueFile("cut", x, bytes(1, 2, 3, 4, 5));
        x.more(9, 1);
        t.dueFile("more behind", x, bytes(1, 2, 3, 4, 5, 9));
        t.due("cut(0)", x.cut(0), 6);
        t.due("count(3)", x.count(3), 0);
    }

    private static void cutBounds(DueSupport t) {
        GlulxSaves x = small();
        t.due("cut(1) of none", x.cut(1), -2);
        t.due("cut(-1) of none", x.cut(-1), -2);
        x.more(0x0102, 2);
        for (int n : new int[] {3, 1200, -1, LEAST, MOST}) {
            t.due("cut(" + n + ")", x.cut(n), -2);
        }
        t.dueFile("uncut", x, bytes(1, 2));
    }

    private static void mores(DueSupport t) {
        long w = 0x8122334455667788L;
        GlulxSaves x = small();
        int size = 0;
        byte[] whole = bytes(0x81, 0x22, 0x33, 0x44, 0x55, 0x66, 0x77, 0x88);
        byte[] due = {};
        for (int n = 0; n <= 8; n++) {
            size += n;
            t.due("more(w, " + n + ")", x.more(w, n), size);
            due = join(due, Arrays.copyOfRange(whole, 8 - n, 8));
        }
        t.dueFile("more", x, due);
    }

    private static void moreBounds(DueSupport t) {
        GlulxSaves x = small();
        for (int n : new int[] {-1, 9, 16, LEAST, MOST}) {
            t.due("more(1, " + n + ")", x.more(1, n), -2);
        }
        t.due("count(3)", x.count(3), 0);
        t.due("more(-1, 0)", x.more(-1, 0), 0);
        t.due("more(-1, 8)", x.more(-1, 8), 8);
    }

    private static void moreWithoutRoom(DueSupport t) {
        GlulxSaves x = small();
        for (int n = 8; n <= 1200; n += 8) {
            t.due("more", x.more(n, 8), n);
        }
        t.due("1 beyond 1200", x.more(0, 1), -4);
        t.due("8 beyond 1200", x.more(0, 8), -4);
        t.due("0 at 1200", x.more(0, 0), 1200);
        x.cut(1195);
        t.due("6 into 5", x.more(-1, 6), -4);
        t.due("count(3)", x.count(3), 1195);
        t.due("at(1195)", x.at(1195), -1);
        t.due("5 into 5", x.more(0x0102030405L, 5), 1200);
        t.due("at(1194)", x.at(1194), 0);
        t.due("at(1195)", x.at(1195), 1);
        t.due("at(1199)", x.at(1199), 5);
    }

    private static void seals(DueSupport t) {
        GlulxSaves x = small();
        x.more(-1, 8);
        t.due("seal() of 8", x.seal(), 0);
        t.dueFile("sealed", x, bytes(255, 255, 255, 255, 0, 0, 0, 0));
        x.more(-1, 1);
        t.due("seal() of 9", x.seal(), 1);
        t.dueFile("sealed", x, bytes(255, 255, 255, 255, 0, 0, 0, 1, 255));
        x.cut(8);
        for (int k = 1; k < 150; k++) {
            x.more(-1, 8);
        }
        t.due("seal() of 1200", x.seal(), 1192);
        t.due("at(3)", x.at(3), 255);
        t.due("its four bytes", x.at(4) << 24 | x.at(5) << 16 | x.at(6) << 8 | x.at(7), 1192);
        t.due("at(8)", x.at(8), 255);
    }

    private static void sealOfFew(DueSupport t) {
        GlulxSaves x = small();
        t.due("seal() of none", x.seal(), -3);
        x.more(-1, 4);
        t.due("seal() of 4", x.seal(), -3);
        x.more(-1, 3);
        t.due("seal() of 7", x.seal(), -3);
        t.dueFile("unsealed", x, bytes(255, 255, 255, 255, 255, 255, 255));
        x.more(-1, 1);
        t.due("seal() of 8", x.seal(), 0);
    }

    private static void counts(DueSupport t) {
        GlulxSaves x = small();
        byte[] file = form(chunk("what", new byte[5]), HEAD, chunk("none"), memory(160), stack(1, 2, 3, 4),
            mall(1, 130, 2), chunk("last", new byte[60]));
        t.dueLoads("others", x, file);
        x.mark();
        x.mark();
        int[] due = {160, 4, 1, file.length, 2, 3, 65};
        for (int what = 0; what < 7; what++) {
            t.due("count(" + what + ")", x.count(what), due[what]);
        }
    }

    private static void countBounds(DueSupport t) {
        GlulxSaves x = small();
        for (int what : new int[] {-1, 7, 8, LEAST, MOST}) {
            t.due("count(" + what + ")", x.count(what), -2);
        }
        t.due("count(0)", x.count(0), 128);
        t.due("count(6)", x.count(6), 0);
    }

    private static int number(int m, int seed, int... rest) {
        int h = m;
        for (int i = 0; i < m; i++) {
            h = 31 * h + original(seed, 128, i);
        }
        for (int v : rest) {
            h = 31 * h + v;
        }
        return h;
    }

    private static void hashes(DueSupport t) {
        GlulxSaves x = new GlulxSaves(2, 16, 128);
        t.due("no stack, no blocks", x.hash(), number(128, 2));
        x.resize(512);
        t.due("512 bytes", x.hash(), number(512, 2));
        x.resize(192);
        x.push(-7);
        x.push(1 << 30);
        t.due("ints, the eldest first", x.hash(), number(192, 2, -7, 1 << 30));
        x.block(180, 12);
        x.block(140, 3);
        t.due("blocks by starts", x.hash(), number(192, 2, -7, 1 << 30, 140, 3, 180, 12));
        x.pop();
        x.free(180);
        t.due("what went is gone", x.hash(), number(192, 2, -7, 140, 3));
        x.poke(191, 5);
        t.due("the last byte", x.hash(), number(192, 2, -7, 140, 3) + 5 * 31 * 31 * 31);
    }

    private static void hashesOfNothingElse(DueSupport t) {
        GlulxSaves x = small();
        int h = x.hash();
        x.protect(3, 4);
        x.mark();
        x.save();
        x.alter(0, 1);
        x.load();
        t.due("a fault, a row, a file, a span", x.hash(), h);
        t.dueLoads("others", x, form(HEAD, memory(128), stack(), chunk("abcd", bytes(1, 2))));
        t.due("others", x.hash(), h);
    }

    private static void hashesWrap(DueSupport t) {
        GlulxSaves x = small();
        long whole = number(128, 0) & 0xFFFFFFFFL;
        for (int v : new int[] {MOST, LEAST, -1, MOST}) {
            x.push(v);
            whole = whole * 31 + v & 0xFFFFFFFFL;
            t.due("push(" + v + ")", x.hash(), (int) whole);
        }
    }
}
