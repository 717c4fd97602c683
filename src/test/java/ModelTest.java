import java.util.Arrays;
import java.util.Random;

/** Long runs of calls (the same ones each time), each answer beside the model's. */
public final class ModelTest extends FileSupport {
    private static final int RUNS = 6000;
    private static final int[] EDGES = {
        Integer.MIN_VALUE, Integer.MAX_VALUE, -2, -1, 0, 1, 2, 8, 9, 15, 16, 60, 61, 64, 65, 127, 128,
        159, 160, 255, 256, 257, 511, 512, 513, 1199, 1200, 1201};

    private final DueSupport t;
    private final Random random;
    private final GlulxSaves x;
    private final ModelSupport model;
    private final String name;
    private final int end;
    private final int storySeed;
    private int calls = 0;
    private final int[] loads;

    private ModelTest(DueSupport t, int run, int[] loads) {
        this.t = t;
        this.loads = loads;
        random = new Random(run);
        int seed = random.nextInt(4) == 0 ? pick(EDGES) : random.nextInt();
        int ram = random.nextInt(6) == 0 ? pick(EDGES) : 16 * (1 + random.nextInt(6));
        int wanted = random.nextInt(6) == 0 ? pick(EDGES) : 128 + 32 * random.nextInt(5);
        x = new GlulxSaves(seed, ram, wanted);
        model = new ModelSupport(seed, ram, wanted);
        end = x.count(0);
        storySeed = seed;
        name = "run " + run + " (" + seed + ", " + ram + ", " + wanted + ") call ";
    }

    public static void main(String[] args) {
        DueSupport t = new DueSupport();
        int[] loads = new int[10];
        for (int run = 0; run < RUNS; run++) {
            new ModelTest(t, run, loads).run();
        }
        for (int fault = 0; fault < loads.length; fault++) {
            t.due("loads with fault " + fault + " are enough", loads[fault] >= 100 ? 1 : 0, 1);
        }
        t.finish("ModelTest");
    }

    private void run() {
        while (calls < 400) {
            switch (random.nextInt(12)) {
                case 0 -> spoiledSave();
                case 1 -> madeFile();
                case 2 -> comingBack();
                case 3 -> fileCall();
                default -> machineCall();
            }
        }
        due("hash()", x.hash(), model.hash());
    }

    private void due(String call, long got, long want) {
        calls++;
        t.due(name + calls + ": " + call, got, want);
    }

    private int pick(int[] of) {
        return of[random.nextInt(of.length)];
    }

    private int near(int limit) {
        return random.nextInt(12) == 0 ? pick(EDGES) : random.nextInt(limit);
    }

    private void machineCall() {
        int a = near(600);
        int b = near(70);
        switch (random.nextInt(10)) {
            case 0 -> due("peek(" + a + ")", x.peek(a), model.peek(a));
            case 1, 2, 3 -> {
                int v = near(256);
                due("poke(" + a + ", " + v + ")", x.poke(a, v), model.poke(a, v));
            }
            case 4 -> {
                int m = random.nextInt(5) == 0 ? a : 32 * random.nextInt(18);
                due("resize(" + m + ")", x.resize(m), model.resize(m));
            }
            case 5 -> due("push(" + a + ")", x.push(a), model.push(a));
            case 6 -> pop();
            case 7, 8 -> {
                int start = random.nextBoolean() ? end + random.nextInt(512 - end) : a;
                due("block(" + start + ", " + b + ")", x.block(start, b), model.block(start, b));
            }
            default -> due("free(" + a + ")", x.free(a), model.free(a));
        }
    }

    private void pop() {
        Long want = model.pop();
        boolean thrown = false;
        long got = 0;
        try {
            got = x.pop();
        } catch (IllegalStateException e) {
            thrown = true;
        }
        due("pop() throws", thrown ? 1 : 0, want == null ? 1 : 0);
        if (want != null) {
            t.due(name + calls + ": pop()", got, want);
        }
    }

    private void comingBack() {
        int a = near(512);
        int n = near(512);
        switch (random.nextInt(6)) {
            case 0, 1 -> due("mark()", x.mark(), model.mark());
            case 2, 3 -> due("undo()", x.undo(), model.undo());
            case 4 -> due("protect(" + a + ", " + n + ")", x.protect(a, n), model.protect(a, n));
            default -> due("restart()", x.restart(), model.restart());
        }
        due("hash()", x.hash(), model.hash());
    }

    private void fileCall() {
        int a = near(120);
        int b = near(256);
        switch (random.nextInt(7)) {
            case 0 -> due("at(" + a + ")", x.at(a), model.at(a));
            case 1 -> due("alter(" + a + ", " + b + ")", x.alter(a, b), model.alter(a, b));
            case 2 -> due("cut(" + a + ")", x.cut(a), model.cut(a));
            case 3 -> {
                long w = random.nextLong();
                int n = near(10);
                due("more(" + w + ", " + n + ")", x.more(w, n), model.more(w, n));
            }
            case 4 -> due("seal()", x.seal(), model.seal());
            case 5 -> due("count(" + b + ")", x.count(b), model.count(b));
            default -> due("fault(" + a + ")", x.fault(a), model.fault(a));
        }
    }

    private void load() {
        long want = model.load();
        loads[want == 1 ? 0 : (int) (-10 - want)]++;
        due("load()", x.load(), want);
        due("fault(0)", x.fault(0), model.fault(0));
        due("fault(1)", x.fault(1), model.fault(1));
        due("hash()", x.hash(), model.hash());
        for (int what = 0; what < 7; what++) {
            due("count(" + what + ")", x.count(what), model.count(what));
        }
    }

    /** A save with a few bytes altered, cut or added behind it, then loaded. */
    private void spoiledSave() {
        due("save()", x.save(), model.save());
        int size = (int) model.count(3);
        for (int k = random.nextInt(3); k > 0 && size > 0; k--) {
            int i = random.nextInt(size);
            int mask = random.nextBoolean() ? 1 << random.nextInt(8) : random.nextInt(256);
            due("alter(" + i + ", " + mask + ")", x.alter(i, mask), model.alter(i, mask));
        }
        if (random.nextInt(4) == 0) {
            int n = random.nextInt(size + 1);
            due("cut(" + n + ")", x.cut(n), model.cut(n));
        }
        if (random.nextInt(4) == 0) {
            add(chunk(random.nextInt(5)));
        }
        if (random.nextInt(8) != 0) {
            due("seal()", x.seal(), model.seal());
        }
        load();
    }

    /** A file of chunks that are mostly right, in a row that is mostly right, then loaded. */
    private void madeFile() {
        due("cut(0)", x.cut(0), model.cut(0));
        add(letters("FORM\0\0\0\0IFZS"));
        int[] row = {0, 1, 2, 3};
        for (int k : row) {
            if (random.nextInt(4) == 0) {
                add(chunk(4));
            }
            if (random.nextInt(20) != 0) {
                add(chunk(random.nextInt(15) == 0 ? random.nextInt(5) : k));
            }
        }
        for (int k = random.nextInt(3); k > 0; k--) {
            add(chunk(4));
        }
        due("seal()", x.seal(), model.seal());
        load();
    }

    private byte[] chunk(int kind) {
        byte[] made = switch (kind) {
            case 0 -> head(storySeed, end);
            case 1 -> memory();
            case 2 -> chunk("Stks", new byte[4 * random.nextInt(random.nextInt(9) == 0 ? 43 : 6)]);
            case 3 -> blocks();
            default -> other();
        };
        if (random.nextInt(12) == 0) {
            made[random.nextInt(made.length)] ^= (byte) (1 << random.nextInt(8));
        }
        return random.nextInt(25) == 0 ? Arrays.copyOf(made, random.nextInt(made.length + 1)) : made;
    }

    private byte[] memory() {
        int m = random.nextInt(15) == 0 ? pick(EDGES) : end + 32 * random.nextInt((512 - end) / 32 + 1);
        byte[] inside = new byte[random.nextInt(12)];
        for (int i = 0; i < inside.length; i++) {
            inside[i] = (byte) (random.nextInt(3) == 0 ? 0 : random.nextInt(256));
        }
        return chunk("CMem", fours(m), inside);
    }

    private byte[] blocks() {
        int n = 1 + random.nextInt(random.nextInt(6) == 0 ? 9 : 3);
        int[] told = new int[1 + 2 * n];
        told[0] = random.nextInt(15) == 0 ? near(9) : n;
        int start = end;
        for (int k = 0; k < n; k++) {
            start += random.nextInt(4);
            int length = 1 + random.nextInt(random.nextInt(15) == 0 ? 66 : 9);
            told[1 + 2 * k] = random.nextInt(20) == 0 ? near(512) : start;
            told[2 + 2 * k] = random.nextInt(20) == 0 ? near(66) : length;
            start += length - (random.nextInt(20) == 0 ? 1 : 0);
        }
        return chunk("MAll", fours(told));
    }

    private byte[] other() {
        byte[] inside = new byte[random.nextInt(random.nextInt(6) == 0 ? 63 : 7)];
        random.nextBytes(inside);
        String[] names = {"abcd", "IFHD", "\u00ff\u0001\u0080\u0000", "FORM", "Cmem"};
        return chunk(names[random.nextInt(names.length)], inside);
    }

    private void add(byte[] bytes) {
        for (int i = 0; i < bytes.length; i += 8) {
            int n = Math.min(8, bytes.length - i);
            long w = random.nextLong();
            for (int k = 0; k < n; k++) {
                w = w << 8 | bytes[i + k] & 255;
            }
            due("more(" + w + ", " + n + ")", x.more(w, n), model.more(w, n));
        }
    }
}
