import java.io.ByteArrayOutputStream;
import java.nio.charset.StandardCharsets;

/** What the tests share: comparing answers, and making files byte by byte. */
final class DueSupport {
    private int wrong = 0;
    private int asked = 0;

    void due(String call, long got, long want) {
        asked++;
        if (got != want) {
            wrong++;
            System.out.println(call + " answered " + got + ", due is " + want);
        }
    }

    void duePopThrows(GlulxSaves x) {
        boolean thrown = false;
        try {
            x.pop();
        } catch (IllegalStateException e) {
            thrown = true;
        }
        due("pop() throws IllegalStateException", thrown ? 1 : 0, 1);
    }

    /** Loads a file that has to be refused, and looks that nothing has changed by it. */
    void dueFault(String name, GlulxSaves x, byte[] file, int fault, int place) {
        put(x, file);
        int[] before = counts(x);
        due(name + ": load()", x.load(), -10 - fault);
        due(name + ": fault(0)", x.fault(0), fault);
        due(name + ": fault(1)", x.fault(1), place);
        int[] behind = counts(x);
        for (int k = 0; k < before.length; k++) {
            due(name + ": unchanged " + k, behind[k], before[k]);
        }
    }

    void dueLoads(String name, GlulxSaves x, byte[] file) {
        put(x, file);
        due(name + ": load()", x.load(), 1);
    }

    void dueFile(String name, GlulxSaves x, byte[] want) {
        due(name + ": count(3)", x.count(3), want.length);
        for (int i = 0; i < want.length; i++) {
            due(name + ": at(" + i + ")", x.at(i), want[i] & 255);
        }
        due(name + ": at(" + want.length + ")", x.at(want.length), -1);
    }

    void finish(String name) {
        System.out.println(name + ": " + asked + " answers, " + wrong + " not as due");
        if (wrong != 0 || asked == 0) {
            System.exit(1);
        }
    }

    private static int[] counts(GlulxSaves x) {
        int[] all = new int[8];
        for (int k = 0; k < 7; k++) {
            all[k] = x.count(k);
        }
        all[7] = x.hash();
        return all;
    }

    static void put(GlulxSaves x, byte[] file) {
        x.cut(0);
        int i = 0;
        while (i < file.length) {
            int n = Math.min(8, file.length - i);
            long w = 0;
            for (int k = 0; k < n; k++) {
                w = w << 8 | file[i + k] & 255;
            }
            x.more(w, n);
            i += n;
        }
    }

    static int original(int seed, int end, int i) {
        return i < end ? (37 * i + seed * (i / 16 + 1) + i / 7) & 255 : 0;
    }

    static byte[] bytes(int... values) {
        byte[] made = new byte[values.length];
        for (int i = 0; i < values.length; i++) {
            made[i] = (byte) values[i];
        }
        return made;
    }

    static byte[] fours(int... values) {
        byte[] made = new byte[values.length * 4];
        for (int i = 0; i < made.length; i++) {
            made[i] = (byte) (values[i / 4] >>> (24 - 8 * (i % 4)));
        }
        return made;
    }

    static byte[] letters(String text) {
        return text.getBytes(StandardCharsets.ISO_8859_1);
    }

    static byte[] join(byte[]... parts) {
        ByteArrayOutputStream all = new ByteArrayOutputStream();
        for (byte[] part : parts) {
            all.write(part, 0, part.length);
        }
        return all.toByteArray();
    }

    static byte[] chunk(String name, byte[]... parts) {
        byte[] inside = join(parts);
        byte[] behind = new byte[inside.length % 2];
        return join(letters(name), fours(inside.length), inside, behind);
    }

    static byte[] head(int seed, int end) {
        byte[] made = new byte[16];
        for (int i = 0; i < 16; i++) {
            made[i] = (byte) original(seed, end, i);
        }
        return chunk("IFhd", made);
    }

    static byte[] form(byte[]... chunks) {
        byte[] all = join(chunks);
        return join(letters("FORM"), fours(all.length + 4), letters("IFZS"), all);
    }
}
