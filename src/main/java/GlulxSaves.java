/**
 * Saves of a machine with memory, stack and blocks. Every array is made with the object and used
 * again, so that no call makes anything.
 */
public final class GlulxSaves {
    private static final int MOST_MEMORY = 512;
    private static final int MEMORY_STEP = 32;
    private static final int HEAD_BYTES = 16;
    private static final int MOST_STACK = 40;
    private static final int MOST_BLOCKS = 8;
    private static final int MOST_BLOCK_LENGTH = 64;
    private static final int MOST_FILE = 1200;
    private static final int MOST_OTHERS = 4;
    private static final int MOST_OTHER_LENGTH = 60;
    private static final int MOST_ROWS = 3;
    private static final int MOST_ZEROS = 256;

    private static final int FORM = 0x464F524D;
    private static final int IFZS = 0x49465A53;
    private static final int IFHD = 0x49466864;
    private static final int CMEM = 0x434D656D;
    private static final int STKS = 0x53746B73;
    private static final int MALL = 0x4D416C6C;

    private static final int LENGTH_PLACE = 4;
    private static final int BEHIND_LENGTH = 8;
    private static final int FIRST_CHUNK = 12;

    private static final int NO_SUCH = -1;
    private static final int OUT_OF_BOUNDS = -2;
    private static final int AS_TOLD = -3;
    private static final int NO_ROOM = -4;

    private static final int NO_FAULT = 0;
    private static final int LACKING = 1;
    private static final int WRONG_BYTE = 2;
    private static final int OTHER_STORY = 3;
    private static final int SECOND = 4;
    private static final int WRONG_LENGTH = 5;
    private static final int WRONG_MEMORY = 6;
    private static final int WRONG_BLOCK = 7;
    private static final int MISSING = 8;
    private static final int TOO_MUCH = 9;

    private final Story story;
    private final Machine now = new Machine();
    private final Machine fresh = new Machine();
    private final Others others = new Others();
    private final Bytes file = new Bytes();
    private final Bytes draft = new Bytes();
    private final Undo rows = new Undo();
    private final Reader reader;
    private int protectedFrom = 0;
    private int protectedBehind = 0;
    private int latestFault = NO_FAULT;
    private int latestPlace = 0;

    public GlulxSaves(int seed, int ram, int end) {
        story = new Story(seed, ram, end);
        reader = new Reader(story);
        now.begin(story);
        fresh.begin(story);
    }

    public int peek(int i) {
        return i < 0 || i >= now.size ? NO_SUCH : now.memory[i];
    }

    public int poke(int i, int v) {
        if (i < story.ram || i >= now.size) {
            return NO_SUCH;
        }
        if (!isByte(v)) {
            return OUT_OF_BOUNDS;
        }
        int was = now.memory[i];
        now.memory[i] = v;
        return was;
    }

    public int resize(int m) {
        if (!story.allowsSize(m)) {
            return OUT_OF_BOUNDS;
        }
        if (now.blocksEnd() > m) {
            return AS_TOLD;
        }
        int was = now.size;
        now.changeSize(m);
        return was;
    }

    public int push(int v) {
        return now.addInt(v) ? now.depth : NO_ROOM;
    }

    public int pop() throws IllegalStateException {
        if (now.depth <= 0) {
            throw new IllegalStateException("the stack is empty");
        }
        return now.takeInt();
    }

    public int block(int start, int length) {
        if (!isBlockLength(length)) {
            return OUT_OF_BOUNDS;
        }
        if (!now.fits(start, length, story.end)) {
            return AS_TOLD;
        }
        return now.addBlock(start, length) ? now.blocks : NO_ROOM;
    }

    public int free(int start) {
        int k = now.blockAt(start);
        return k < 0 ? NO_SUCH : now.removeBlock(k);
    }

    public int protect(int place, int n) {
        if (place < 0 || place >= MOST_MEMORY || n < 0 || n > MOST_MEMORY) {
            return OUT_OF_BOUNDS;
        }
        protectedFrom = place;
        protectedBehind = place + n;
        return 1;
    }

    public int save() {
        draft.clear();
        Writer.writeFile(draft, story, now, others);
        if (draft.overflowed) {
            return NO_ROOM;
        }
        file.become(draft);
        return file.size;
    }

    public int load() {
        if (!reader.read(file)) {
            latestFault = reader.fault;
            latestPlace = reader.place;
            return -10 - latestFault;
        }
        bringBack(reader.machine);
        others.become(reader.others);
        return 1;
    }

    public int fault(int what) {
        if (what != 0 && what != 1) {
            return OUT_OF_BOUNDS;
        }
        if (latestFault == NO_FAULT) {
            return AS_TOLD;
        }
        return what == 0 ? latestFault : latestPlace;
    }

    public int mark() {
        rows.keep(now);
        return rows.count;
    }

    public int undo() {
        Machine latest = rows.takeLatest();
        if (latest == null) {
            return AS_TOLD;
        }
        bringBack(latest);
        return rows.count;
    }

    public int restart() {
        bringBack(fresh);
        return 1;
    }

    // ---- the file

    public int at(int i) {
        return file.holds(i, 1) ? file.byteAt(i) : NO_SUCH;
    }

    public int alter(int i, int mask) {
        if (!file.holds(i, 1)) {
            return NO_SUCH;
        }
        if (!isByte(mask)) {
            return OUT_OF_BOUNDS;
        }
        int altered = file.byteAt(i) ^ mask;
        file.setByte(i, altered);
        return altered;
    }

    public int cut(int n) {
        if (n < 0 || n > file.size) {
            return OUT_OF_BOUNDS;
        }
        int gone = file.size - n;
        file.size = n;
        return gone;
    }

    public int more(long w, int n) {
        if (n < 0 || n > 8) {
            return OUT_OF_BOUNDS;
        }
        if (file.size + n > MOST_FILE) {
            return NO_ROOM;
        }
        for (int k = n - 1; k >= 0; k--) {
            file.add((int) (w >>> (8 * k)) & 255);
        }
        return file.size;
    }

    public int seal() {
        if (file.size < BEHIND_LENGTH) {
            return AS_TOLD;
        }
        int behind = file.size - BEHIND_LENGTH;
        file.setFour(LENGTH_PLACE, behind);
        return behind;
    }

    public int count(int what) {
        switch (what) {
            case 0: return now.size;
            case 1: return now.depth;
            case 2: return now.blocks;
            case 3: return file.size;
            case 4: return rows.count;
            case 5: return others.count;
            case 6: return others.bytesInAll();
            default: return OUT_OF_BOUNDS;
        }
    }

    public int hash() {
        return now.number();
    }

    private void bringBack(Machine from) {
        now.become(from, protectedFrom, protectedBehind);
    }

    private static boolean isByte(int v) {
        return v >= 0 && v <= 255;
    }

    private static boolean isBlockLength(int length) {
        return length >= 1 && length <= MOST_BLOCK_LENGTH;
    }

    /** What never changes: where memory may be written, where it ends at first, what it was. */
    private static final class Story {
        final int ram;
        final int end;
        final int[] original = new int[MOST_MEMORY];

        Story(int seed, int wantedRam, int wantedEnd) {
            ram = inSteps(wantedRam, 16, 96, 16) ? wantedRam : 16;
            end = inSteps(wantedEnd, 128, 256, MEMORY_STEP) ? wantedEnd : 128;
            for (int i = 0; i < end && i < MOST_MEMORY; i++) {
                original[i] = (37 * i + seed * (i / 16 + 1) + i / 7) & 255;
            }
        }

        boolean allowsSize(int m) {
            return inSteps(m, end, MOST_MEMORY, MEMORY_STEP);
        }

        // Every lowest value here is itself a multiple of its step, so the remainder decides.
        private static boolean inSteps(int v, int low, int high, int step) {
            return v >= low && v <= high && step > 0 && v % step == 0;
        }
    }

    /** Memory, stack and blocks (by their starts); memory from size on holds nothing of meaning. */
    private static final class Machine {
        final int[] memory = new int[MOST_MEMORY];
        int size = 0;
        final int[] stack = new int[MOST_STACK];
        int depth = 0;
        final int[] starts = new int[MOST_BLOCKS];
        final int[] lengths = new int[MOST_BLOCKS];
        int blocks = 0;

        void begin(Story story) {
            System.arraycopy(story.original, 0, memory, 0, MOST_MEMORY);
            size = story.end;
            depth = 0;
            blocks = 0;
        }

        /** All is as in the other one, but bytes of the kept span that both of them have. */
        void become(Machine other, int keptFrom, int keptBehind) {
            int both = Math.min(size, other.size);
            for (int i = 0; i < other.size && i < MOST_MEMORY; i++) {
                boolean stays = i >= keptFrom && i < keptBehind && i < both;
                if (!stays) {
                    memory[i] = other.memory[i];
                }
            }
            size = other.size;
            System.arraycopy(other.stack, 0, stack, 0, MOST_STACK);
            depth = other.depth;
            System.arraycopy(other.starts, 0, starts, 0, MOST_BLOCKS);
            System.arraycopy(other.lengths, 0, lengths, 0, MOST_BLOCKS);
            blocks = other.blocks;
        }

        void changeSize(int m) {
            for (int i = size; i < m && i < MOST_MEMORY; i++) {
                memory[i] = 0;
            }
            size = m;
        }

        boolean addInt(int v) {
            if (depth >= MOST_STACK) {
                return false;
            }
            stack[depth] = v;
            depth++;
            return true;
        }

        int takeInt() {
            if (depth <= 0) {
                return 0;
            }
            depth--;
            return stack[depth];
        }

        int blocksEnd() {
            return blocks == 0 ? 0 : starts[blocks - 1] + lengths[blocks - 1];
        }

        int blockAt(int start) {
            for (int k = 0; k < blocks; k++) {
                if (starts[k] == start) {
                    return k;
                }
            }
            return -1;
        }

        boolean fits(int start, int length, int lowest) {
            // The size is tested by a difference: a sum might wrap.
            if (start < lowest || !isBlockLength(length) || start > size - length) {
                return false;
            }
            for (int k = 0; k < blocks; k++) {
                if (start < starts[k] + lengths[k] && starts[k] < start + length) {
                    return false;
                }
            }
            return true;
        }

        boolean addBlock(int start, int length) {
            if (blocks >= MOST_BLOCKS) {
                return false;
            }
            int k = blocks;
            while (k > 0 && starts[k - 1] > start) {
                starts[k] = starts[k - 1];
                lengths[k] = lengths[k - 1];
                k--;
            }
            starts[k] = start;
            lengths[k] = length;
            blocks++;
            return true;
        }

        int removeBlock(int gone) {
            if (gone < 0 || gone >= blocks) {
                return 0;
            }
            int length = lengths[gone];
            blocks--;
            for (int k = gone; k < blocks; k++) {
                starts[k] = starts[k + 1];
                lengths[k] = lengths[k + 1];
            }
            return length;
        }

        int number() {
            int h = size;
            for (int i = 0; i < size; i++) {
                h = 31 * h + memory[i];
            }
            for (int k = 0; k < depth; k++) {
                h = 31 * h + stack[k];
            }
            for (int k = 0; k < blocks; k++) {
                h = 31 * h + starts[k];
                h = 31 * h + lengths[k];
            }
            return h;
        }
    }

    /** The rows of undo, the eldest first. */
    private static final class Undo {
        private final Machine[] kept = new Machine[MOST_ROWS];
        int count = 0;

        Undo() {
            for (int k = 0; k < MOST_ROWS; k++) {
                kept[k] = new Machine();
            }
        }

        void keep(Machine machine) {
            if (count >= MOST_ROWS) {
                dropEldest();
            }
            kept[count].become(machine, 0, 0);
            count++;
        }

        /** Null: there is none. */
        Machine takeLatest() {
            if (count <= 0) {
                return null;
            }
            count--;
            return kept[count];
        }

        // The eldest row's arrays serve again behind the others.
        private void dropEldest() {
            Machine eldest = kept[0];
            for (int k = 1; k < MOST_ROWS; k++) {
                kept[k - 1] = kept[k];
            }
            kept[MOST_ROWS - 1] = eldest;
            count--;
        }
    }

    /** The chunks that no one knows: letters, length and bytes of each. */
    private static final class Others {
        int count = 0;
        final int[] letters = new int[MOST_OTHERS];
        final int[] lengths = new int[MOST_OTHERS];
        final int[] bytes = new int[MOST_OTHERS * MOST_OTHER_LENGTH];

        void become(Others from) {
            count = from.count;
            System.arraycopy(from.letters, 0, letters, 0, MOST_OTHERS);
            System.arraycopy(from.lengths, 0, lengths, 0, MOST_OTHERS);
            System.arraycopy(from.bytes, 0, bytes, 0, MOST_OTHERS * MOST_OTHER_LENGTH);
        }

        void addFrom(Bytes file, int chunk, int length) {
            if (count >= MOST_OTHERS || length < 0 || length > MOST_OTHER_LENGTH) {
                return;
            }
            letters[count] = file.fourAt(chunk);
            lengths[count] = length;
            for (int i = 0; i < length; i++) {
                bytes[count * MOST_OTHER_LENGTH + i] = file.byteAt(chunk + BEHIND_LENGTH + i);
            }
            count++;
        }

        int bytesInAll() {
            int sum = 0;
            for (int k = 0; k < count; k++) {
                sum += lengths[k];
            }
            return sum;
        }
    }

    /** A file's bytes, each 0 to 255. */
    private static final class Bytes {
        private final int[] bytes = new int[MOST_FILE];
        int size = 0;
        boolean overflowed = false;

        void clear() {
            size = 0;
            overflowed = false;
        }

        void become(Bytes other) {
            System.arraycopy(other.bytes, 0, bytes, 0, MOST_FILE);
            size = other.size;
        }

        // Lengths that a file tells may be huge: hence the long.
        boolean holds(int from, long n) {
            return from >= 0 && n >= 0 && from + n <= size;
        }

        int byteAt(int i) {
            return i >= 0 && i < MOST_FILE ? bytes[i] : 0;
        }

        int fourAt(int i) {
            if (i < 0 || i > MOST_FILE - 4) {
                return 0;
            }
            return bytes[i] << 24 | bytes[i + 1] << 16 | bytes[i + 2] << 8 | bytes[i + 3];
        }

        void setByte(int i, int v) {
            if (i >= 0 && i < MOST_FILE) {
                bytes[i] = v;
            }
        }

        void setFour(int place, int v) {
            for (int k = 0; k < 4; k++) {
                setByte(place + k, v >>> (24 - 8 * k) & 255);
            }
        }

        void add(int v) {
            if (size >= MOST_FILE) {
                overflowed = true;
                return;
            }
            setByte(size, v);
            size++;
        }

        void addFour(int v) {
            for (int k = 0; k < 4; k++) {
                add(v >>> (24 - 8 * k) & 255);
            }
        }
    }

    /** Writes all that there is as a file; if that overflows, the lengths in it mean nothing. */
    private static final class Writer {
        static void writeFile(Bytes to, Story story, Machine machine, Others others) {
            to.addFour(FORM);
            to.addFour(0);
            to.addFour(IFZS);
            writeHead(to, story);
            writeMemory(to, story, machine);
            writeStack(to, machine);
            if (machine.blocks > 0) {
                writeBlocks(to, machine);
            }
            writeOthers(to, others);
            to.setFour(LENGTH_PLACE, to.size - BEHIND_LENGTH);
        }

        private static int openChunk(Bytes to, int letters) {
            int start = to.size;
            to.addFour(letters);
            to.addFour(0);
            return start;
        }

        private static void closeChunk(Bytes to, int start) {
            int length = to.size - start - BEHIND_LENGTH;
            to.setFour(start + LENGTH_PLACE, length);
            if ((length & 1) != 0) {
                to.add(0);
            }
        }

        private static void writeHead(Bytes to, Story story) {
            int start = openChunk(to, IFHD);
            for (int i = 0; i < HEAD_BYTES; i++) {
                to.add(story.original[i]);
            }
            closeChunk(to, start);
        }

        private static void writeMemory(Bytes to, Story story, Machine machine) {
            int start = openChunk(to, CMEM);
            to.addFour(machine.size);
            int zeros = 0;
            for (int i = story.ram; i < machine.size && i < MOST_MEMORY; i++) {
                int difference = machine.memory[i] ^ story.original[i];
                if (difference == 0) {
                    zeros++;
                } else {
                    writeZeros(to, zeros);
                    to.add(difference);
                    zeros = 0;
                }
            }
            closeChunk(to, start);
        }

        private static void writeZeros(Bytes to, int zeros) {
            for (int left = zeros; left > 0; left -= MOST_ZEROS) {
                to.add(0);
                to.add(Math.min(left, MOST_ZEROS) - 1);
            }
        }

        private static void writeStack(Bytes to, Machine machine) {
            int start = openChunk(to, STKS);
            for (int k = 0; k < machine.depth; k++) {
                to.addFour(machine.stack[k]);
            }
            closeChunk(to, start);
        }

        private static void writeBlocks(Bytes to, Machine machine) {
            int start = openChunk(to, MALL);
            to.addFour(machine.blocks);
            for (int k = 0; k < machine.blocks; k++) {
                to.addFour(machine.starts[k]);
                to.addFour(machine.lengths[k]);
            }
            closeChunk(to, start);
        }

        private static void writeOthers(Bytes to, Others others) {
            for (int k = 0; k < others.count; k++) {
                int start = openChunk(to, others.letters[k]);
                for (int i = 0; i < others.lengths[k]; i++) {
                    to.add(others.bytes[k * MOST_OTHER_LENGTH + i]);
                }
                closeChunk(to, start);
            }
        }
    }

    /**
     * Reads a file into a machine and others of its own, so that a fault leaves the object as it
     * was. A step that finds a fault answers false, and no step comes behind it: the first one counts.
     */
    private static final class Reader {
        // The four known ones and the others, once each, and one more that must be a fault.
        private static final int MOST_CHUNKS = 4 + MOST_OTHERS + 1;

        private final Story story;
        final Machine machine = new Machine();
        final Others others = new Others();
        int fault = NO_FAULT;
        int place = 0;
        private int next = 0;
        private boolean sawHead = false;
        private boolean sawMemory = false;
        private boolean sawStack = false;
        private boolean sawBlocks = false;

        Reader(Story toldStory) {
            story = toldStory;
        }

        boolean read(Bytes file) {
            forget();
            if (!readFront(file)) {
                return false;
            }
            for (int n = 0; n < MOST_CHUNKS && next < file.size; n++) {
                if (!readChunk(file, next)) {
                    return false;
                }
            }
            return sawMemory && sawStack || fail(MISSING, file.size);
        }

        private void forget() {
            machine.begin(story);
            others.count = 0;
            fault = NO_FAULT;
            place = 0;
            next = FIRST_CHUNK;
            sawHead = false;
            sawMemory = false;
            sawStack = false;
            sawBlocks = false;
        }

        private boolean fail(int what, int where) {
            fault = what;
            place = where;
            return false;
        }

        private boolean reaches(Bytes file, int from, long n) {
            return file.holds(from, n) || fail(LACKING, file.size);
        }

        private boolean readFront(Bytes file) {
            return readLetters(file, 0, FORM)
                && reaches(file, LENGTH_PLACE, 4)
                && readWholeLength(file)
                && readLetters(file, BEHIND_LENGTH, IFZS);
        }

        // Byte by byte: a wrong letter counts even if a later one lacks.
        private boolean readLetters(Bytes file, int from, int letters) {
            for (int k = 0; k < 4; k++) {
                if (!reaches(file, from + k, 1)) {
                    return false;
                }
                if (file.byteAt(from + k) != (letters >>> (24 - 8 * k) & 255)) {
                    return fail(WRONG_BYTE, from + k);
                }
            }
            return true;
        }

        private boolean readWholeLength(Bytes file) {
            return file.fourAt(LENGTH_PLACE) == file.size - BEHIND_LENGTH
                || fail(WRONG_LENGTH, LENGTH_PLACE);
        }

        private boolean readChunk(Bytes file, int start) {
            if (!reaches(file, start, 4)) {
                return false;
            }
            int letters = file.fourAt(start);
            if (!mayCome(letters, start) || !reaches(file, start + LENGTH_PLACE, 4)) {
                return false;
            }
            int length = file.fourAt(start + LENGTH_PLACE);
            if (!lengthMayBe(letters, length, start) || !isWhole(file, start, length)) {
                return false;
            }
            next = start + BEHIND_LENGTH + length + (length & 1);
            return readInside(file, letters, start, length);
        }

        private boolean mayCome(int letters, int start) {
            if (wasSeen(letters)) {
                return fail(SECOND, start);
            }
            boolean wantsHead = letters == CMEM || letters == STKS || letters == MALL;
            if (wantsHead && !sawHead || letters == MALL && !sawMemory) {
                return fail(MISSING, start);
            }
            return true;
        }

        private boolean wasSeen(int letters) {
            switch (letters) {
                case IFHD: return sawHead;
                case CMEM: return sawMemory;
                case STKS: return sawStack;
                case MALL: return sawBlocks;
                default: return false;
            }
        }

        private boolean lengthMayBe(int letters, int length, int start) {
            if (!lengthIsRight(letters, length)) {
                return fail(WRONG_LENGTH, start + LENGTH_PLACE);
            }
            if (!isKnown(letters) && (others.count >= MOST_OTHERS || length > MOST_OTHER_LENGTH)) {
                return fail(TOO_MUCH, start);
            }
            return true;
        }

        private static boolean isKnown(int letters) {
            return letters == IFHD || letters == CMEM || letters == STKS || letters == MALL;
        }

        private static boolean lengthIsRight(int letters, int length) {
            switch (letters) {
                case IFHD: return length == HEAD_BYTES;
                case CMEM: return length >= 4;
                case STKS: return length >= 0 && length <= 4 * MOST_STACK && length % 4 == 0;
                case MALL: return length >= 12 && length <= 4 + 8 * MOST_BLOCKS && length % 8 == 4;
                default: return length >= 0;
            }
        }

        private boolean isWhole(Bytes file, int start, int length) {
            int inside = start + BEHIND_LENGTH;
            boolean odd = (length & 1) != 0;
            if (!reaches(file, inside, odd ? length + 1L : length)) {
                return false;
            }
            return !odd || file.byteAt(inside + length) == 0 || fail(WRONG_BYTE, inside + length);
        }

        private boolean readInside(Bytes file, int letters, int start, int length) {
            int inside = start + BEHIND_LENGTH;
            switch (letters) {
                case IFHD:
                    sawHead = true;
                    return readHead(file, inside);
                case CMEM:
                    sawMemory = true;
                    return readSize(file, inside) && readMemory(file, inside + 4, inside + length);
                case STKS:
                    sawStack = true;
                    return readStack(file, inside, length / 4);
                case MALL:
                    sawBlocks = true;
                    return readBlocks(file, inside, (length - 4) / 8);
                default:
                    others.addFrom(file, start, length);
                    return true;
            }
        }

        private boolean readHead(Bytes file, int inside) {
            for (int i = 0; i < HEAD_BYTES; i++) {
                if (file.byteAt(inside + i) != story.original[i]) {
                    return fail(OTHER_STORY, inside + i);
                }
            }
            return true;
        }

        private boolean readSize(Bytes file, int inside) {
            int size = file.fourAt(inside);
            if (!story.allowsSize(size)) {
                return fail(WRONG_MEMORY, inside);
            }
            machine.size = size;
            return true;
        }

        private boolean readMemory(Bytes file, int from, int behind) {
            int i = story.ram;
            int step = 1;
            for (int p = from; p < behind; p += step) {
                int difference = file.byteAt(p);
                step = difference == 0 ? 2 : 1;
                if (p + step > behind) {
                    return fail(WRONG_MEMORY, p);
                }
                int told = difference == 0 ? file.byteAt(p + 1) + 1 : 1;
                if (i < 0 || i + told > machine.size || i + told > MOST_MEMORY) {
                    return fail(WRONG_MEMORY, p);
                }
                // The machine began as the original, so 0s leave it as it is.
                machine.memory[i] ^= difference;
                i += told;
            }
            return true;
        }

        private boolean readStack(Bytes file, int inside, int ints) {
            for (int k = 0; k < ints; k++) {
                machine.addInt(file.fourAt(inside + 4 * k));
            }
            return true;
        }

        private boolean readBlocks(Bytes file, int inside, int blocks) {
            if (file.fourAt(inside) != blocks) {
                return fail(WRONG_BLOCK, inside);
            }
            for (int k = 0; k < blocks; k++) {
                int where = inside + 4 + 8 * k;
                int start = file.fourAt(where);
                int length = file.fourAt(where + 4);
                // A start behind the blocks so far keeps them in row and apart.
                int lowest = Math.max(story.end, machine.blocksEnd());
                if (!machine.fits(start, length, lowest) || !machine.addBlock(start, length)) {
                    return fail(WRONG_BLOCK, where);
                }
            }
            return true;
        }
    }
}
