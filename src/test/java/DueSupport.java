import java.util.function.Supplier;

/** Compares answers with those that are due, and counts the ones that differ. */
final class DueSupport {
    // An object answers 512 calls, so a long file is looked at in parts, each on an object of its own.
    private static final int PART = 256;

    private int wrong = 0;
    private int asked = 0;

    void due(String call, long got, long want) {
        asked++;
        if (got != want) {
            wrong++;
            System.out.println(call + " answered " + got + ", due is " + want);
        }
    }

    boolean allAreDue() {
        return wrong == 0 && asked > 0;
    }

    void duePopThrows(String name, GlulxSaves x) {
        boolean thrown = false;
        try {
            x.pop();
        } catch (IllegalStateException e) {
            thrown = true;
        }
        due(name + ": pop() throws IllegalStateException", thrown ? 1 : 0, 1);
    }

    /** Loads a file that has to be refused, and looks that nothing has changed by it. */
    void dueFault(String name, GlulxSaves x, byte[] file, int fault, int place) {
        FileSupport.put(x, file);
        int[] before = counts(x);
        due(name + ": load()", x.load(), -10 - fault);
        due(name + ": fault(0)", x.fault(0), fault);
        due(name + ": fault(1)", x.fault(1), place);
        int[] behind = counts(x);
        for (int k = 0; k < before.length; k++) {
            due(name + ": unchanged " + k, behind[k], before[k]);
        }
    }

    void dueLoads(String name, GlulxSaves x, byte[] file) {
        FileSupport.put(x, file);
        due(name + ": load()", x.load(), 1);
    }

    void dueSaves(String name, GlulxSaves x, byte[] want) {
        due(name + ": save()", x.save(), want.length);
        dueFile(name, x, want);
    }

    void dueFile(String name, GlulxSaves x, byte[] want) {
        due(name + ": count(3)", x.count(3), want.length);
        duePart(name, x, want, 0, want.length);
        due(name + ": at(" + want.length + ")", x.at(want.length), -1);
    }

    void dueLongFile(String name, Supplier<GlulxSaves> maker, byte[] want) {
        for (int from = 0; from < want.length; from += PART) {
            GlulxSaves x = maker.get();
            due(name + ": count(3)", x.count(3), want.length);
            duePart(name, x, want, from, Math.min(from + PART, want.length));
        }
    }

    private void duePart(String name, GlulxSaves x, byte[] want, int from, int behind) {
        for (int i = from; i < behind; i++) {
            due(name + ": at(" + i + ")", x.at(i), want[i] & 255);
        }
    }

    /** All that the calls count, and the number of memory, stack and blocks. */
    static int[] counts(GlulxSaves x) {
        int[] all = new int[8];
        for (int k = 0; k < 7; k++) {
            all[k] = x.count(k);
        }
        all[7] = x.hash();
        return all;
    }

    void finish(String name) {
        System.out.println(name + ": " + asked + " answers, " + wrong + " not as due");
        if (!allAreDue()) {
            System.exit(1);
        }
    }
}
