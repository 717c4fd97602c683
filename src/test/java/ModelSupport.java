import java.io.ByteArrayOutputStream;
import java.nio.ByteBuffer;
import java.nio.charset.StandardCharsets;
import java.util.ArrayDeque;
import java.util.ArrayList;
import java.util.Arrays;
import java.util.HashSet;
import java.util.List;
import java.util.Map;
import java.util.Set;
import java.util.TreeMap;

/** The document told a second time, with the library and without care for room or speed. */
final class ModelSupport {
    private static final class Fault extends Exception {
        private static final long serialVersionUID = 1L;
        final int what;
        final int place;

        Fault(int what, int place) {
            this.what = what;
            this.place = place;
        }
    }

    private record Row(byte[] memory, List<Integer> stack, TreeMap<Integer, Integer> blocks) {
        Row copy() {
            return new Row(memory.clone(), new ArrayList<>(stack), new TreeMap<>(blocks));
        }
    }

    private record Other(String name, byte[] inside) { }

    private final int seed;
    private final int ram;
    private final int end;
    private Row now;
    private byte[] file = {};
    private List<Other> others = new ArrayList<>();
    private final ArrayDeque<Row> rows = new ArrayDeque<>();
    private final Set<Integer> kept = new HashSet<>();
    private Fault latest = null;

    ModelSupport(int seed, int ram, int end) {
        this.seed = seed;
        this.ram = List.of(16, 32, 48, 64, 80, 96).contains(ram) ? ram : 16;
        this.end = List.of(128, 160, 192, 224, 256).contains(end) ? end : 128;
        now = fresh(this.end);
    }

    private Row fresh(int m) {
        byte[] memory = new byte[m];
        for (int i = 0; i < m; i++) {
            memory[i] = (byte) FileSupport.original(seed, end, i);
        }
        return new Row(memory, new ArrayList<>(), new TreeMap<>());
    }

    private boolean sizeMayBe(int m) {
        return m >= end && m <= 512 && Math.floorMod(m, 32) == 0;
    }

    private boolean blockMayBe(Map<Integer, Integer> there, int start, int length, int m) {
        if (start < end || length < 1 || length > 64 || (long) start + length > m) {
            return false;
        }
        for (int i = start; i < start + length; i++) {
            for (Map.Entry<Integer, Integer> b : there.entrySet()) {
                if (i >= b.getKey() && i < b.getKey() + b.getValue()) {
                    return false;
                }
            }
        }
        return true;
    }

    private void bringBack(Row row) {
        byte[] memory = row.memory().clone();
        for (int i : kept) {
            if (i < memory.length && i < now.memory().length) {
                memory[i] = now.memory()[i];
            }
        }
        now = new Row(memory, new ArrayList<>(row.stack()), new TreeMap<>(row.blocks()));
    }

    long peek(int i) {
        return i < 0 || i >= now.memory().length ? -1 : now.memory()[i] & 255;
    }

    long poke(int i, int v) {
        long was = peek(i);
        if (was < 0 || i < ram) {
            return -1;
        }
        if (v != (v & 255)) {
            return -2;
        }
        now.memory()[i] = (byte) v;
        return was;
    }

    long resize(int m) {
        if (!sizeMayBe(m)) {
            return -2;
        }
        for (Map.Entry<Integer, Integer> b : now.blocks().entrySet()) {
            if (b.getKey() + b.getValue() > m) {
                return -3;
            }
        }
        long was = now.memory().length;
        now = new Row(Arrays.copyOf(now.memory(), m), now.stack(), now.blocks());
        return was;
    }

    long push(int v) {
        if (now.stack().size() == 40) {
            return -4;
        }
        now.stack().add(v);
        return now.stack().size();
    }

    /** Null where the call has to throw. */
    Long pop() {
        List<Integer> stack = now.stack();
        return stack.isEmpty() ? null : Long.valueOf(stack.remove(stack.size() - 1));
    }

    long block(int start, int length) {
        if (length < 1 || length > 64) {
            return -2;
        }
        if (!blockMayBe(now.blocks(), start, length, now.memory().length)) {
            return -3;
        }
        if (now.blocks().size() == 8) {
            return -4;
        }
        now.blocks().put(start, length);
        return now.blocks().size();
    }

    long free(int start) {
        Integer length = now.blocks().remove(start);
        return length == null ? -1 : length;
    }

    long protect(int place, int n) {
        if (place < 0 || place > 511 || n < 0 || n > 512) {
            return -2;
        }
        kept.clear();
        for (int k = 0; k < n; k++) {
            kept.add(place + k);
        }
        return 1;
    }

    long save() {
        List<byte[]> chunks = new ArrayList<>();
        chunks.add(FileSupport.head(seed, end));
        chunks.add(FileSupport.chunk("CMem", FileSupport.fours(now.memory().length), differences()));
        chunks.add(FileSupport.chunk("Stks", FileSupport.fours(
            now.stack().stream().mapToInt(Integer::intValue).toArray())));
        if (!now.blocks().isEmpty()) {
            ByteArrayOutputStream inside = new ByteArrayOutputStream();
            inside.writeBytes(FileSupport.fours(now.blocks().size()));
            now.blocks().forEach((s, l) -> inside.writeBytes(FileSupport.fours(s, l)));
            chunks.add(FileSupport.chunk("MAll", inside.toByteArray()));
        }
        for (Other o : others) {
            chunks.add(FileSupport.chunk(o.name(), o.inside()));
        }
        byte[] made = FileSupport.form(chunks.toArray(new byte[0][]));
        if (made.length > 1200) {
            return -4;
        }
        file = made;
        return made.length;
    }

    private byte[] differences() {
        byte[] memory = now.memory();
        int last = memory.length;
        while (last > ram && (memory[last - 1] & 255) == FileSupport.original(seed, end, last - 1)) {
            last--;
        }
        ByteArrayOutputStream out = new ByteArrayOutputStream();
        int i = ram;
        while (i < last) {
            int d = memory[i] & 255 ^ FileSupport.original(seed, end, i);
            out.write(d);
            int run = 1;
            if (d == 0) {
                while (run < 256 && (memory[i + run] & 255) == FileSupport.original(seed, end, i + run)) {
                    run++;
                }
                out.write(run - 1);
            }
            i += run;
        }
        return out.toByteArray();
    }

    long load() {
        try {
            read();
            return 1;
        } catch (Fault f) {
            latest = f;
            return -10 - f.what;
        }
    }

    private int byteOf(int i) throws Fault {
        if (i >= file.length) {
            throw new Fault(1, file.length);
        }
        return file[i] & 255;
    }

    private int fourOf(int i) throws Fault {
        byteOf(i + 3);
        return ByteBuffer.wrap(file).getInt(i);
    }

    private void expect(int i, String text) throws Fault {
        for (int k = 0; k < text.length(); k++) {
            if (byteOf(i + k) != text.charAt(k)) {
                throw new Fault(2, i + k);
            }
        }
    }

    private void read() throws Fault {
        expect(0, "FORM");
        if (fourOf(4) != file.length - 8) {
            throw new Fault(5, 4);
        }
        expect(8, "IFZS");
        Map<String, byte[]> four = new TreeMap<>();
        List<Other> toldOthers = new ArrayList<>();
        Row told = fresh(end);
        int p = 12;
        while (p < file.length) {
            fourOf(p);
            String name = new String(file, p, 4, StandardCharsets.ISO_8859_1);
            boolean known = Set.of("IFhd", "CMem", "Stks", "MAll").contains(name);
            if (four.containsKey(name)) {
                throw new Fault(4, p);
            }
            if (known && !name.equals("IFhd") && !four.containsKey("IFhd")) {
                throw new Fault(8, p);
            }
            if (name.equals("MAll") && !four.containsKey("CMem")) {
                throw new Fault(8, p);
            }
            int length = fourOf(p + 4);
            if (!lengthMayBe(name, length)) {
                throw new Fault(5, p + 4);
            }
            if (!known && (toldOthers.size() == 4 || length > 60)) {
                throw new Fault(9, p);
            }
            long next = p + 8L + length + length % 2;
            if (next > file.length) {
                throw new Fault(1, file.length);
            }
            if (length % 2 == 1 && file[p + 8 + length] != 0) {
                throw new Fault(2, p + 8 + length);
            }
            byte[] inside = Arrays.copyOfRange(file, p + 8, p + 8 + length);
            switch (name) {
                case "IFhd" -> readHead(p + 8);
                case "CMem" -> told = readMemory(p + 8, inside, told);
                case "Stks" -> {
                    for (int i = 0; i < length; i += 4) {
                        told.stack().add(fourOf(p + 8 + i));
                    }
                }
                case "MAll" -> readBlocks(p + 8, length, told);
                default -> toldOthers.add(new Other(name, inside));
            }
            if (known) {
                four.put(name, inside);
            }
            p = (int) next;
        }
        if (!four.containsKey("CMem") || !four.containsKey("Stks")) {
            throw new Fault(8, file.length);
        }
        bringBack(told);
        others = toldOthers;
    }

    private static boolean lengthMayBe(String name, int length) {
        return switch (name) {
            case "IFhd" -> length == 16;
            case "CMem" -> length >= 4;
            case "Stks" -> length >= 0 && length <= 160 && length % 4 == 0;
            case "MAll" -> List.of(12, 20, 28, 36, 44, 52, 60, 68).contains(length);
            default -> length >= 0;
        };
    }

    private void readHead(int p) throws Fault {
        for (int i = 0; i < 16; i++) {
            if (byteOf(p + i) != FileSupport.original(seed, end, i)) {
                throw new Fault(3, p + i);
            }
        }
    }

    private Row readMemory(int p, byte[] inside, Row told) throws Fault {
        int m = fourOf(p);
        if (!sizeMayBe(m)) {
            throw new Fault(6, p);
        }
        byte[] memory = fresh(m).memory();
        int at = ram;
        int k = 4;
        while (k < inside.length) {
            if (inside[k] != 0) {
                if (at >= m) {
                    throw new Fault(6, p + k);
                }
                memory[at] ^= inside[k];
                at++;
                k++;
            } else {
                if (k + 1 == inside.length || at + (inside[k + 1] & 255) + 1 > m) {
                    throw new Fault(6, p + k);
                }
                at += (inside[k + 1] & 255) + 1;
                k += 2;
            }
        }
        return new Row(memory, told.stack(), told.blocks());
    }

    private void readBlocks(int p, int length, Row told) throws Fault {
        if (fourOf(p) * 8L + 4 != length) {
            throw new Fault(7, p);
        }
        for (int k = 4; k < length; k += 8) {
            int start = fourOf(p + k);
            int n = fourOf(p + k + 4);
            boolean inRow = told.blocks().isEmpty() || start > told.blocks().lastKey();
            if (!inRow || !blockMayBe(told.blocks(), start, n, told.memory().length)) {
                throw new Fault(7, p + k);
            }
            told.blocks().put(start, n);
        }
    }

    long fault(int what) {
        if (what < 0 || what > 1) {
            return -2;
        }
        return latest == null ? -3 : what == 0 ? latest.what : latest.place;
    }

    long mark() {
        rows.addLast(now.copy());
        if (rows.size() > 3) {
            rows.removeFirst();
        }
        return rows.size();
    }

    long undo() {
        if (rows.isEmpty()) {
            return -3;
        }
        bringBack(rows.removeLast());
        return rows.size();
    }

    long restart() {
        bringBack(fresh(end));
        return 1;
    }

    long at(int i) {
        return i < 0 || i >= file.length ? -1 : file[i] & 255;
    }

    long alter(int i, int mask) {
        if (at(i) < 0) {
            return -1;
        }
        if (mask < 0 || mask > 255) {
            return -2;
        }
        file[i] ^= (byte) mask;
        return at(i);
    }

    long cut(int n) {
        if (n < 0 || n > file.length) {
            return -2;
        }
        int went = file.length - n;
        file = Arrays.copyOf(file, n);
        return went;
    }

    long more(long w, int n) {
        if (n < 0 || n > 8) {
            return -2;
        }
        if (file.length + n > 1200) {
            return -4;
        }
        byte[] all = ByteBuffer.allocate(8).putLong(w).array();
        file = FileSupport.join(file, Arrays.copyOfRange(all, 8 - n, 8));
        return file.length;
    }

    long seal() {
        if (file.length < 8) {
            return -3;
        }
        ByteBuffer.wrap(file).putInt(4, file.length - 8);
        return file.length - 8;
    }

    long count(int what) {
        return switch (what) {
            case 0 -> now.memory().length;
            case 1 -> now.stack().size();
            case 2 -> now.blocks().size();
            case 3 -> file.length;
            case 4 -> rows.size();
            case 5 -> others.size();
            case 6 -> others.stream().mapToInt(o -> o.inside().length).sum();
            default -> -2;
        };
    }

    long hash() {
        int h = now.memory().length;
        for (byte b : now.memory()) {
            h = 31 * h + (b & 255);
        }
        for (int v : now.stack()) {
            h = 31 * h + v;
        }
        for (Map.Entry<Integer, Integer> b : now.blocks().entrySet()) {
            h = 31 * (31 * h + b.getKey()) + b.getValue();
        }
        return h;
    }
}
