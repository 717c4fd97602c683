import java.io.ByteArrayOutputStream;
import java.nio.charset.StandardCharsets;

/** Makes files byte by byte, apart from the class; tests extend it to use its names plainly. */
abstract class FileSupport {
    static final int LEAST = Integer.MIN_VALUE;
    static final int MOST = Integer.MAX_VALUE;

    static void put(GlulxSaves x, byte[] file) {
        x.cut(0);
        for (int i = 0; i < file.length; i += 8) {
            int n = Math.min(8, file.length - i);
            x.more(word(file, i, n), n);
        }
    }

    static long word(byte[] from, int i, int n) {
        long w = 0;
        for (int k = 0; k < n; k++) {
            w = w << 8 | from[i + k] & 255;
        }
        return w;
    }

    static int original(int seed, int end, int i) {
        return i < end ? (37 * i + seed * (i / 16 + 1) + i / 7) & 255 : 0;
    }

    static byte[] bytes(int... values) {
        byte[] made = new byte[values.length];
        for (int i = 0; i < values.length; i++) {
            made[i] = (byte) values[i];
        }
        return made;
    }

    static byte[] fours(int... values) {
        byte[] made = new byte[values.length * 4];
        for (int i = 0; i < made.length; i++) {
            made[i] = (byte) (values[i / 4] >>> (24 - 8 * (i % 4)));
        }
        return made;
    }

    static byte[] letters(String text) {
        return text.getBytes(StandardCharsets.ISO_8859_1);
    }

    static byte[] join(byte[]... parts) {
        ByteArrayOutputStream all = new ByteArrayOutputStream();
        for (byte[] part : parts) {
            all.write(part, 0, part.length);
        }
        return all.toByteArray();
    }

    static byte[] chunk(String name, byte[]... parts) {
        byte[] inside = join(parts);
        byte[] behind = new byte[inside.length % 2];
        return join(letters(name), fours(inside.length), inside, behind);
    }

    /** A chunk that tells another length than it has bytes, which are 0s. */
    static byte[] raw(String name, int length, int bytes) {
        return join(letters(name), fours(length), new byte[bytes]);
    }

    static byte[] head(int seed, int end) {
        byte[] made = new byte[16];
        for (int i = 0; i < 16; i++) {
            made[i] = (byte) original(seed, end, i);
        }
        return chunk("IFhd", made);
    }

    static byte[] memory(int m, int... inside) {
        return chunk("CMem", fours(m), bytes(inside));
    }

    static byte[] stack(int... ints) {
        return chunk("Stks", fours(ints));
    }

    static byte[] mall(int... values) {
        return chunk("MAll", fours(values));
    }

    static byte[] form(byte[]... chunks) {
        byte[] all = join(chunks);
        return join(letters("FORM"), fours(all.length + 4), letters("IFZS"), all);
    }

    static byte[] with(byte[] file, int i, int v) {
        byte[] made = file.clone();
        made[i] = (byte) v;
        return made;
    }

    static byte[] seal(byte[] file) {
        byte[] made = file.clone();
        System.arraycopy(fours(file.length - 8), 0, made, 4, 4);
        return made;
    }

    /** Every second byte from 16 up to 512 differs: no memory has a longer telling. */
    static byte[] longestMemory() {
        byte[] inside = new byte[744];
        for (int i = 2; i < inside.length; i += 3) {
            inside[i] = 1;
        }
        return chunk("CMem", fours(512), inside);
    }
}
