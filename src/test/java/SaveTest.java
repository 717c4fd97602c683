/** Promises 10 and 16 to 22: what is written, the file's bytes, counts, the number of it all. */
public final class SaveTest {
    private static final DueSupport t = new DueSupport();

    public static void main(String[] args) {
        plain();
        whole();
        oneBlock();
        zeros();
        manyZeros();
        tooLong();
        fileCalls();
        moreBounds();
        sealing();
        counts();
        hashes();
        t.finish("SaveTest");
    }

    private static void plain() {
        GlulxSaves x = new GlulxSaves(4, 16, 192);
        t.due("save()", x.save(), 56);
        t.dueFile("plain", x, DueSupport.form(DueSupport.head(4, 192),
            DueSupport.chunk("CMem", DueSupport.fours(192)), DueSupport.chunk("Stks")));
        t.due("save() in place of it", x.save(), 56);
    }

    private static void whole() {
        GlulxSaves x = new GlulxSaves(-9, 32, 128);
        x.resize(224);
        x.poke(32, DueSupport.original(-9, 128, 32) ^ 0x81);
        x.poke(35, DueSupport.original(-9, 128, 35) ^ 0xFF);
        x.poke(200, 5);
        x.push(-2);
        x.push(0x01020304);
        x.block(200, 24);
        x.block(128, 64);
        byte[] due = DueSupport.form(DueSupport.head(-9, 128),
            DueSupport.chunk("CMem", DueSupport.fours(224), DueSupport.bytes(0x81, 0, 1, 0xFF, 0, 163, 5)),
            DueSupport.chunk("Stks", DueSupport.fours(-2, 0x01020304)),
            DueSupport.chunk("MAll", DueSupport.fours(2, 128, 64, 200, 24)));
        t.due("save()", x.save(), due.length);
        t.dueFile("whole", x, due);
        x.poke(35, 0);
        x.push(1);
        t.dueFile("the file stays as it was", x, due);
    }

    private static void oneBlock() {
        GlulxSaves x = new GlulxSaves(0, 16, 128);
        x.resize(160);
        x.block(130, 1);
        t.due("save()", x.save(), 76);
        t.dueFile("one block", x, DueSupport.form(DueSupport.head(0, 128),
            DueSupport.chunk("CMem", DueSupport.fours(160)), DueSupport.chunk("Stks"),
            DueSupport.chunk("MAll", DueSupport.fours(1, 130, 1))));
        x.free(130);
        t.due("save() of none", x.save(), 56);
    }

    private static void zeros() {
        GlulxSaves x = new GlulxSaves(0, 16, 128);
        x.resize(512);
        int[] places = {271, 272, 273};
        byte[][] insides = {
            DueSupport.bytes(0, 254, 9), DueSupport.bytes(0, 255, 9), DueSupport.bytes(0, 255, 0, 0, 9)};
        for (int k = 0; k < places.length; k++) {
            x.poke(places[k], 9);
            x.save();
            t.dueFile("0s up to " + places[k], x, DueSupport.form(DueSupport.head(0, 128),
                DueSupport.chunk("CMem", DueSupport.fours(512), insides[k]), DueSupport.chunk("Stks")));
            x.poke(places[k], 0);
        }
    }

    private static void manyZeros() {
        GlulxSaves x = new GlulxSaves(0, 16, 128);
        x.resize(512);
        x.poke(511, 1);
        x.save();
        t.dueFile("the last byte", x, DueSupport.form(DueSupport.head(0, 128),
            DueSupport.chunk("CMem", DueSupport.fours(512), DueSupport.bytes(0, 255, 0, 238, 1)),
            DueSupport.chunk("Stks")));
        x.poke(511, 0);
        t.due("0s alone are left out", x.save(), 56);
    }

    /** Every second byte differs, four others of 60 bytes: 1072 bytes, then 4 more for each int. */
    private static void tooLong() {
        byte[] inside = new byte[744];
        for (int i = 0; i < inside.length; i += 3) {
            inside[i + 2] = 1;
        }
        byte[] full = new byte[60];
        byte[] other = DueSupport.chunk("abcd", full);
        GlulxSaves x = new GlulxSaves(0, 16, 128);
        byte[] file = DueSupport.form(DueSupport.head(0, 128),
            DueSupport.chunk("CMem", DueSupport.fours(512), inside), DueSupport.chunk("Stks"),
            other, other, other, other);
        t.dueLoads("long", x, file);
        t.due("save()", x.save(), 1072);
        t.dueFile("long", x, file);
        for (int k = 0; k < 32; k++) {
            x.push(k);
        }
        t.due("save() of 1200", x.save(), 1200);
        t.due("more(0, 0) at 1200", x.more(0, 0), 1200);
        t.due("more(0, 1) at 1200", x.more(0, 1), -4);
        t.due("at(1199)", x.at(1199), 0);
        t.due("load()", x.load(), 1);
        x.cut(1000);
        x.push(32);
        t.due("save() of 1204", x.save(), -4);
        t.due("the file stays", x.count(3), 1000);
        t.due("the file stays", x.at(36 + 8 + 4 + 2), 1);
        for (int k = 33; k < 40; k++) {
            x.push(k);
        }
        t.due("save() of 1232", x.save(), -4);
        t.due("the file's length stays", x.at(6) * 256 + x.at(7), 1192);
        for (int k = 40; k > 32; k--) {
            x.pop();
        }
        t.due("save() of 1200 behind a refusal", x.save(), 1200);
    }

    private static void fileCalls() {
        GlulxSaves x = new GlulxSaves(0, 16, 128);
        t.due("at(0) of none", x.at(0), -1);
        t.due("alter(0, 256) of none", x.alter(0, 256), -1);
        t.due("cut(1) of none", x.cut(1), -2);
        t.due("cut(0) of none", x.cut(0), 0);
        x.more(0x01020304F0F1F2F3L, 8);
        t.due("at(4)", x.at(4), 0xF0);
        t.due("at(-1)", x.at(-1), -1);
        t.due("at(8)", x.at(8), -1);
        t.due("at(max)", x.at(Integer.MAX_VALUE), -1);
        t.due("at(min)", x.at(Integer.MIN_VALUE), -1);
        t.due("alter(4, 255)", x.alter(4, 255), 0x0F);
        t.due("alter(4, 0)", x.alter(4, 0), 0x0F);
        t.due("alter(4, 0x80)", x.alter(4, 0x80), 0x8F);
        t.due("at(4)", x.at(4), 0x8F);
        t.due("alter(4, 256)", x.alter(4, 256), -2);
        t.due("alter(4, -1)", x.alter(4, -1), -2);
        t.due("alter(8, -1)", x.alter(8, -1), -1);
        t.due("alter(-1, 0)", x.alter(-1, 0), -1);
        t.due("alter(7, 1)", x.alter(7, 1), 0xF2);
        t.due("cut(9)", x.cut(9), -2);
        t.due("cut(-1)", x.cut(-1), -2);
        t.due("cut(8)", x.cut(8), 0);
        t.due("cut(5)", x.cut(5), 3);
        t.due("at(5)", x.at(5), -1);
        t.due("count(3)", x.count(3), 5);
        t.due("cut(0)", x.cut(0), 5);
        t.due("count(3)", x.count(3), 0);
    }

    private static void moreBounds() {
        GlulxSaves x = new GlulxSaves(0, 16, 128);
        t.due("more(1, 9)", x.more(1, 9), -2);
        t.due("more(1, -1)", x.more(1, -1), -2);
        t.due("more(1, max)", x.more(1, Integer.MAX_VALUE), -2);
        t.due("more(-1, 0)", x.more(-1, 0), 0);
        t.due("more(.., 3)", x.more(0x1122334455667788L, 3), 3);
        t.due("more(.., 1)", x.more(-1L, 1), 4);
        t.due("more(.., 5)", x.more(0x1122334455667788L, 5), 9);
        t.dueFile("more", x, DueSupport.bytes(0x66, 0x77, 0x88, 0xFF, 0x44, 0x55, 0x66, 0x77, 0x88));
        x.cut(0);
        for (int n = 8; n <= 1200; n += 8) {
            t.due("more", x.more(n, 8), n);
        }
        t.due("more beyond 1200", x.more(0, 1), -4);
        t.due("first its bounds", x.more(0, 9), -2);
        x.cut(1195);
        t.due("6 into 5", x.more(0, 6), -4);
        t.due("count(3)", x.count(3), 1195);
        t.due("5 into 5", x.more(0x0102030405L, 5), 1200);
        t.due("at(1199)", x.at(1199), 5);
    }

    private static void sealing() {
        GlulxSaves x = new GlulxSaves(0, 16, 128);
        t.due("seal() of none", x.seal(), -3);
        x.more(-1, 7);
        t.due("seal() of 7", x.seal(), -3);
        t.due("at(4)", x.at(4), 255);
        x.more(-1, 1);
        t.due("seal() of 8", x.seal(), 0);
        t.dueFile("sealed", x, DueSupport.bytes(255, 255, 255, 255, 0, 0, 0, 0));
        for (int k = 0; k < 40; k++) {
            x.more(-1, 8);
        }
        t.due("seal() of 328", x.seal(), 320);
        t.due("at(6)", x.at(6), 1);
        t.due("at(7)", x.at(7), 64);
        t.due("at(8)", x.at(8), 255);
    }

    private static void counts() {
        GlulxSaves x = new GlulxSaves(0, 16, 128);
        t.due("count(-1)", x.count(-1), -2);
        t.due("count(7)", x.count(7), -2);
        t.due("count(min)", x.count(Integer.MIN_VALUE), -2);
        t.dueLoads("others", x, DueSupport.form(DueSupport.chunk("what", new byte[5]),
            DueSupport.head(0, 128), DueSupport.chunk("none"),
            DueSupport.chunk("CMem", DueSupport.fours(160)),
            DueSupport.chunk("Stks", DueSupport.fours(1, 2, 3)),
            DueSupport.chunk("MAll", DueSupport.fours(1, 130, 2)), DueSupport.chunk("last", new byte[60])));
        x.mark();
        x.mark();
        int[] due = {160, 3, 1, x.count(3), 2, 3, 65};
        for (int what = 0; what < 7; what++) {
            t.due("count(" + what + ")", x.count(what), due[what]);
        }
    }

    private static void hashes() {
        GlulxSaves x = new GlulxSaves(2, 16, 128);
        x.resize(192);
        x.poke(100, 255);
        x.push(-7);
        x.push(1 << 30);
        x.block(180, 12);
        x.block(140, 3);
        int h = 192;
        for (int i = 0; i < 192; i++) {
            h = 31 * h + (i == 100 ? 255 : DueSupport.original(2, 128, i));
        }
        int[] rest = {-7, 1 << 30, 140, 3, 180, 12};
        for (int v : rest) {
            h = 31 * h + v;
        }
        t.due("hash()", x.hash(), h);
        x.protect(3, 4);
        x.mark();
        x.save();
        t.due("hash() is of memory, stack and blocks alone", x.hash(), h);
    }
}
