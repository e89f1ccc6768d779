import java.util.Arrays;

/** Memory of a story machine with a heap at its end; the document (DOC.md) tells what each call answers. */
public final class GlulxHeap {
    public static final int NONE = -1, BAD = -11, OUTSIDE = -12, READONLY = -13, BUSY = -14, FULL = -15, ENDLESS = -16;

    private static final int SIZE_STEP = 256;
    private static final int SIZE_FIRST = 1024;
    private static final int SIZE_MOST = 8192;
    private static final int ROM_END = 64;
    private static final int BLOCKS_MOST = 64;
    private static final int KEPT_MOST = 4;

    private static final int KEY_MOST = 64;
    private static final int STRUCTURES_MOST = 3000;
    private static final int HALVINGS_MOST = 40;
    private static final int INDIRECT = 1;
    private static final int ZERO = 2;
    private static final int INDEX = 4;
    private static final int FOUND = 1;
    private static final int ENDED = 2;
    private static final int GO_ON = 3;

    private static final int HEAD_LENGTH = 6;
    private static final int BLOCK_LENGTH = 4;
    private static final int ROW_MOST = 256;
    // Bytes cost most when every other one is 0: three bytes of the code for two of memory.
    private static final int CODE_MOST = HEAD_LENGTH + BLOCK_LENGTH * BLOCKS_MOST + SIZE_MOST / 2 * 3;
    private static final int RIGHT = -1;
    private static final int WRONG_BASE = -100;

    private final State[] kept = new State[KEPT_MOST];
    private final Key wanted = new Key();
    private final Code script = new Code();
    private State now = new State();
    private State spare;
    private int keptCount;
    private int protectedAt;
    private int protectedLength;

    public GlulxHeap() {
        now.begin();
    }

    // ---- bytes

    public long get(int at, int width) {
        if (at < 0 || !isWidth(width)) {
            return BAD;
        }
        if (!now.has(at, width)) {
            return OUTSIDE;
        }
        return now.number(at, width);
    }

    public int set(int at, int width, int v) {
        if (at < 0 || !isWidth(width)) {
            return BAD;
        }
        int refusal = writeRefusal(at, width);
        if (refusal != 0) {
            return refusal;
        }
        now.store(at, width, v);
        return 1;
    }

    public int zero(int at, int n) {
        if (at < 0 || n < 0) {
            return BAD;
        }
        if (n == 0) {
            return 1;
        }
        int refusal = writeRefusal(at, n);
        if (refusal != 0) {
            return refusal;
        }
        Arrays.fill(now.bytes, at, at + n, (byte) 0);
        return 1;
    }

    public int copy(int from, int to, int n) {
        if (from < 0 || to < 0 || n < 0) {
            return BAD;
        }
        if (n == 0) {
            return 1;
        }
        if (!now.has(from, n)) {
            return OUTSIDE;
        }
        int refusal = writeRefusal(to, n);
        if (refusal != 0) {
            return refusal;
        }
        System.arraycopy(now.bytes, from, now.bytes, to, n);
        return 1;
    }

    public int resize(int size) {
        if (!isSize(size)) {
            return BAD;
        }
        if (now.used > 0) {
            return BUSY;
        }
        int before = now.size;
        now.changeSize(size);
        return before;
    }

    /** 0, or why the bytes can not be written; n is 1 or more. */
    private int writeRefusal(int at, int n) {
        if (!now.has(at, n)) {
            return OUTSIDE;
        }
        return at < ROM_END ? READONLY : 0;
    }

    private static boolean isWidth(int width) {
        return width == 1 || width == 2 || width == 4;
    }

    private static boolean isSize(int size) {
        return size >= SIZE_STEP && size <= SIZE_MOST && size % SIZE_STEP == 0;
    }

    // ---- the heap

    public int make(int n) {
        if (n < 1) {
            return BAD;
        }
        if (now.used >= BLOCKS_MOST) {
            return 0;
        }
        int i = now.gapFor(n);
        int place = now.gapBegin(i);
        if (n > SIZE_MOST - place) {
            return 0;
        }
        now.addBlock(i, place, n);
        return place;
    }

    public int free(int at) {
        int i = now.blockAt(at);
        if (i == NONE) {
            return BAD;
        }
        int length = now.lengths[i];
        now.removeBlock(i);
        return length;
    }

    public int block(int i, int what) {
        if (i < 0 || i >= now.used) {
            return BAD;
        }
        switch (what) {
            case 0:
                return now.places[i];
            case 1:
                return now.lengths[i];
            case 2:
                return now.gapLength(i + 1);
            default:
                return BAD;
        }
    }

    // ---- searches

    public int linear(int key, int k, int start, int width, int n, int offset, int options) {
        if (width < 0 || n < -1 || !isSearch(k, start, offset, options)) {
            return BAD;
        }
        if (!wanted.load(now, key, k, options)) {
            return OUTSIDE;
        }
        int end = n == -1 ? STRUCTURES_MOST : Math.min(n, STRUCTURES_MOST);
        for (int i = 0; i < end; i++) {
            long place = start + (long) i * width;
            int seen = look(place + offset, options);
            if (seen == FOUND) {
                return foundAnswer(i, place, options);
            }
            if (seen == ENDED) {
                return noneAnswer(options);
            }
            if (seen == OUTSIDE) {
                return OUTSIDE;
            }
        }
        return n == end ? noneAnswer(options) : ENDLESS;
    }

    public int binary(int key, int k, int start, int width, int n, int offset, int options) {
        if (width < 0 || n < 0 || !isSearch(k, start, offset, options) || (options & ZERO) != 0) {
            return BAD;
        }
        if (!wanted.load(now, key, k, options)) {
            return OUTSIDE;
        }
        long low = 0;
        long high = n;
        for (int step = 0; step < HALVINGS_MOST && low < high; step++) {
            long middle = (low + high) / 2;
            long place = start + middle * width;
            if (!now.has(place + offset, k)) {
                return OUTSIDE;
            }
            int order = wanted.orderOf(now, (int) (place + offset));
            if (order == 0) {
                return foundAnswer((int) middle, place, options);
            }
            if (order < 0) {
                low = middle + 1;
            } else {
                high = middle;
            }
        }
        return noneAnswer(options);
    }

    public int linked(int key, int k, int start, int offset, int link, int options) {
        if (link < 0 || !isSearch(k, start, offset, options) || (options & INDEX) != 0) {
            return BAD;
        }
        if (!wanted.load(now, key, k, options)) {
            return OUTSIDE;
        }
        long place = start;
        for (int count = 0; count < STRUCTURES_MOST && place != 0; count++) {
            int seen = look(place + offset, options);
            if (seen == FOUND) {
                return (int) place;
            }
            if (seen == ENDED) {
                return 0;
            }
            if (seen == OUTSIDE || !now.has(place + link, 4)) {
                return OUTSIDE;
            }
            place = now.number((int) (place + link), 4);
        }
        return place == 0 ? 0 : ENDLESS;
    }

    private static boolean isSearch(int k, int start, int offset, int options) {
        if (start < 0 || offset < 0 || options < 0 || options > INDIRECT + ZERO + INDEX) {
            return false;
        }
        return (options & INDIRECT) != 0 ? k >= 1 && k <= KEY_MOST : isWidth(k);
    }

    /** What a structure whose key lies at a place means for the search: FOUND, ENDED, GO_ON or OUTSIDE. */
    private int look(long at, int options) {
        if (!now.has(at, wanted.length)) {
            return OUTSIDE;
        }
        if (wanted.orderOf(now, (int) at) == 0) {
            return FOUND;
        }
        boolean ends = (options & ZERO) != 0 && now.allZero((int) at, wanted.length);
        return ends ? ENDED : GO_ON;
    }

    private static int foundAnswer(int index, long place, int options) {
        return (options & INDEX) != 0 ? index : (int) place;
    }

    private static int noneAnswer(int options) {
        return (options & INDEX) != 0 ? NONE : 0;
    }

    // ---- states

    public int protect(int at, int n) {
        if (at < 0 || at > SIZE_MOST || n < 0 || n > SIZE_MOST) {
            return BAD;
        }
        protectedAt = n == 0 ? 0 : at;
        protectedLength = n;
        return 1;
    }

    public int keep() {
        if (keptCount >= KEPT_MOST) {
            return FULL;
        }
        State state = kept[keptCount];
        if (state == null) {
            state = new State();
            kept[keptCount] = state;
        }
        state.become(now);
        keptCount++;
        return keptCount;
    }

    public int back() {
        State state = lastKept();
        if (state == null) {
            return BAD;
        }
        keptCount--;
        // The present state's rows are the next ones to be kept in, so that none are made anew.
        kept[keptCount] = now;
        comeBack(state);
        return keptCount;
    }

    public int restart() {
        State state = spareState();
        state.begin();
        spare = now;
        comeBack(state);
        return 1;
    }

    public int same() {
        State state = lastKept();
        if (state == null) {
            return BAD;
        }
        return now.isLike(state) ? 1 : 0;
    }

    private State lastKept() {
        return keptCount > 0 && keptCount <= KEPT_MOST ? kept[keptCount - 1] : null;
    }

    /** Rows are made when they are first needed: many objects that never need them share one room. */
    private State spareState() {
        if (spare == null) {
            spare = new State();
        }
        return spare;
    }

    private void comeBack(State state) {
        int end = Math.min(protectedAt + protectedLength, Math.min(now.size, state.size));
        if (protectedAt < end) {
            System.arraycopy(now.bytes, protectedAt, state.bytes, protectedAt, end - protectedAt);
        }
        now = state;
    }

    // ---- the code

    public int write() {
        script.tell(now);
        return script.length;
    }

    public int code(int i) {
        return script.has(i) ? script.byteAt(i) : NONE;
    }

    public int poke(int i, int v) {
        if (!script.has(i) || v < 0 || v > 255) {
            return BAD;
        }
        int before = script.byteAt(i);
        script.bytes[i] = (byte) v;
        return before;
    }

    public int cut(int n) {
        if (n < 0 || n > script.length) {
            return BAD;
        }
        int gone = script.length - n;
        script.length = n;
        return gone;
    }

    public int read() {
        State state = spareState();
        int wrong = script.unfold(state);
        if (wrong != RIGHT) {
            return WRONG_BASE - wrong;
        }
        spare = now;
        comeBack(state);
        return now.size;
    }

    public int told(int what) {
        switch (what) {
            case 0:
                return now.size;
            case 1:
                return now.start;
            case 2:
                return now.used;
            case 3:
                return now.usedBytes();
            case 4:
                return now.gapCount();
            case 5:
                return keptCount;
            case 6:
                return script.length;
            case 7:
                return protectedAt;
            case 8:
                return protectedLength;
            default:
                return BAD;
        }
    }

    /** MEMORY, SIZE and THE HEAP. Bytes from size on are 0 at all times, so that new bytes need no care. */
    private static final class State {
        final byte[] bytes = new byte[SIZE_MOST];
        final int[] places = new int[BLOCKS_MOST];
        final int[] lengths = new int[BLOCKS_MOST];
        int size;
        int start;
        int used;

        void begin() {
            Arrays.fill(bytes, (byte) 0);
            for (int i = 0; i < ROM_END; i++) {
                bytes[i] = (byte) first(i);
            }
            size = SIZE_FIRST;
            start = 0;
            used = 0;
        }

        void become(State other) {
            System.arraycopy(other.bytes, 0, bytes, 0, SIZE_MOST);
            System.arraycopy(other.places, 0, places, 0, BLOCKS_MOST);
            System.arraycopy(other.lengths, 0, lengths, 0, BLOCKS_MOST);
            size = other.size;
            start = other.start;
            used = other.used;
        }

        boolean isLike(State other) {
            if (size != other.size || start != other.start || used != other.used) {
                return false;
            }
            for (int i = 0; i < used; i++) {
                if (places[i] != other.places[i] || lengths[i] != other.lengths[i]) {
                    return false;
                }
            }
            for (int i = 0; i < size; i++) {
                if (bytes[i] != other.bytes[i]) {
                    return false;
                }
            }
            return true;
        }

        static int first(int i) {
            return i < ROM_END ? 7 * i & 255 : 0;
        }

        int difference(int i) {
            return bytes[i] & 255 ^ first(i);
        }

        boolean has(long at, int n) {
            return at >= 0 && at <= size - n;
        }

        long number(int at, int width) {
            long number = 0;
            for (int i = 0; i < width; i++) {
                number = number << 8 | bytes[at + i] & 255;
            }
            return number;
        }

        void store(int at, int width, int v) {
            int rest = v;
            for (int i = width - 1; i >= 0; i--) {
                bytes[at + i] = (byte) rest;
                rest >>>= 8;
            }
        }

        boolean allZero(int at, int n) {
            for (int i = 0; i < n; i++) {
                if (bytes[at + i] != 0) {
                    return false;
                }
            }
            return true;
        }

        void changeSize(int newSize) {
            if (newSize < size) {
                Arrays.fill(bytes, newSize, size, (byte) 0);
            }
            size = newSize;
        }

        /** Gap i lies ahead of block i, the last one behind all blocks; one of length 0 is none. */
        int gapBegin(int i) {
            if (i > 0) {
                return places[i - 1] + lengths[i - 1];
            }
            // Without a heap the next one begins at the end of memory.
            return used == 0 ? size : start;
        }

        int gapLength(int i) {
            int end = i < used ? places[i] : size;
            return end - gapBegin(i);
        }

        /** The first gap with room for n bytes; if there is none, the last one, that memory's growth widens. */
        int gapFor(int n) {
            for (int i = 0; i < used; i++) {
                if (gapLength(i) >= n) {
                    return i;
                }
            }
            return used;
        }

        int gapCount() {
            int count = 0;
            for (int i = 0; i <= used; i++) {
                if (gapLength(i) > 0) {
                    count++;
                }
            }
            return count;
        }

        int usedBytes() {
            int sum = 0;
            for (int i = 0; i < used; i++) {
                sum += lengths[i];
            }
            return sum;
        }

        int blockAt(int place) {
            for (int i = 0; i < used; i++) {
                if (places[i] == place) {
                    return i;
                }
            }
            return NONE;
        }

        void addBlock(int i, int place, int n) {
            if (used == 0) {
                start = size;
            }
            System.arraycopy(places, i, places, i + 1, used - i);
            System.arraycopy(lengths, i, lengths, i + 1, used - i);
            places[i] = place;
            lengths[i] = n;
            used++;
            if (place + n > size) {
                changeSize((place + n + SIZE_STEP - 1) / SIZE_STEP * SIZE_STEP);
            }
        }

        void removeBlock(int i) {
            System.arraycopy(places, i + 1, places, i, used - i - 1);
            System.arraycopy(lengths, i + 1, lengths, i, used - i - 1);
            used--;
            if (used == 0) {
                changeSize(start);
                start = 0;
            }
        }

        /** Where the bytes end that are not as at first. */
        int changedEnd() {
            for (int i = size; i > 0; i--) {
                if (difference(i - 1) != 0) {
                    return i;
                }
            }
            return 0;
        }

        /** How many bytes from a place on are as at first, as far as one row of the code can tell. */
        int unchangedRow(int at, int end) {
            int last = Math.min(end, at + ROW_MOST);
            for (int i = at; i < last; i++) {
                if (difference(i) != 0) {
                    return i - at;
                }
            }
            return last - at;
        }
    }

    /** The key that a search looks for. */
    private static final class Key {
        final byte[] bytes = new byte[KEY_MOST];
        int length;

        /** False: memory has not all bytes of it. k has been looked at. */
        boolean load(State state, int key, int k, int options) {
            length = k;
            if ((options & INDIRECT) == 0) {
                for (int i = 0; i < k; i++) {
                    bytes[i] = (byte) (key >>> 8 * (k - 1 - i));
                }
                return true;
            }
            if (!state.has(key, k)) {
                return false;
            }
            System.arraycopy(state.bytes, key, bytes, 0, k);
            return true;
        }

        /** Below 0, 0 or above 0: the bytes at a place are less than the key, the same, greater. */
        int orderOf(State state, int at) {
            for (int i = 0; i < length; i++) {
                int order = (state.bytes[at + i] & 255) - (bytes[i] & 255);
                if (order != 0) {
                    return order;
                }
            }
            return 0;
        }
    }

    /** CODE: a state told in bytes. */
    private static final class Code {
        byte[] bytes = new byte[0];
        int length;

        boolean has(int i) {
            return i >= 0 && i < length;
        }

        int byteAt(int i) {
            return bytes[i] & 255;
        }

        int pairAt(int i) {
            return byteAt(i) << 8 | byteAt(i + 1);
        }

        private void append(int v) {
            if (length < bytes.length) {
                bytes[length] = (byte) v;
                length++;
            }
        }

        private void appendPair(int v) {
            append(v >> 8);
            append(v);
        }

        void tell(State state) {
            if (bytes.length < CODE_MOST) {
                bytes = new byte[CODE_MOST];
            }
            length = 0;
            appendPair(state.size);
            appendPair(state.start);
            appendPair(state.used);
            for (int i = 0; i < state.used; i++) {
                appendPair(state.places[i]);
                appendPair(state.lengths[i]);
            }
            tellBytes(state);
        }

        private void tellBytes(State state) {
            int end = state.changedEnd();
            int at = 0;
            while (at < end) {
                int row = state.unchangedRow(at, end);
                if (row > 0) {
                    append(0);
                    append(row - 1);
                    at += row;
                } else {
                    append(state.difference(at));
                    at++;
                }
            }
        }

        /** Makes the state that is told: RIGHT, or the place where the code is wrong (the state is then of no use). */
        int unfold(State state) {
            state.begin();
            int wrong = unfoldHead(state);
            if (wrong == RIGHT) {
                wrong = unfoldBlocks(state);
            }
            if (wrong == RIGHT) {
                wrong = unfoldBytes(state);
            }
            return wrong;
        }

        private int unfoldHead(State state) {
            if (length < 2) {
                return length;
            }
            int size = pairAt(0);
            if (!isSize(size)) {
                return 0;
            }
            if (length < 4) {
                return length;
            }
            int start = pairAt(2);
            if (start != 0 && (!isSize(start) || start >= size)) {
                return 2;
            }
            if (length < HEAD_LENGTH) {
                return length;
            }
            int used = pairAt(4);
            if (used > BLOCKS_MOST || (used == 0) != (start == 0)) {
                return 4;
            }
            state.size = size;
            state.start = start;
            state.used = used;
            return RIGHT;
        }

        private int unfoldBlocks(State state) {
            int lowest = state.start;
            for (int i = 0; i < state.used; i++) {
                int p = HEAD_LENGTH + BLOCK_LENGTH * i;
                if (length < p + 2) {
                    return length;
                }
                int place = pairAt(p);
                if (place < lowest) {
                    return p;
                }
                if (length < p + 4) {
                    return length;
                }
                int n = pairAt(p + 2);
                if (n == 0 || place + n > state.size) {
                    return p + 2;
                }
                state.places[i] = place;
                state.lengths[i] = n;
                lowest = place + n;
            }
            return RIGHT;
        }

        private int unfoldBytes(State state) {
            int p = HEAD_LENGTH + BLOCK_LENGTH * state.used;
            int at = 0;
            while (p < length) {
                if (at >= state.size) {
                    return p;
                }
                int v = byteAt(p);
                if (v != 0) {
                    if (at < ROM_END) {
                        return p;
                    }
                    // What is no ROM is 0 at first, so the difference is the byte itself.
                    state.bytes[at] = (byte) v;
                    at++;
                    p++;
                    continue;
                }
                if (p + 1 >= length) {
                    return length;
                }
                at += byteAt(p + 1) + 1;
                if (at > state.size || p + 2 >= length) {
                    return p;
                }
                p += 2;
            }
            return RIGHT;
        }
    }
}
