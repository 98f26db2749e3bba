import java.util.Arrays;

/**
 * A rescuer's bench: finds the files on a disk whose lists are lost. The numbered promises that it keeps stand in
 * shared/DOC.md; words like row, look and cover are used here as they are told there.
 */
public final class RescueBench {
    public static final int NONE = -1;

    private static final int MAX_BLOCKS = 24;
    private static final int BLOCK_BYTES = 8;
    private static final int BYTE_BITS = 8;
    private static final int MAX_MAKES = 6;
    private static final int MAX_EDGES = 40;
    private static final int STATES = 16;
    private static final int ALL_STATES = 0xFFFF;
    private static final int LAST_BYTE = 255;
    private static final int BYTES = 256;
    private static final int CHECKS = 3;
    private static final int SUM = 0;
    private static final int XOR = 1;
    private static final int LENGTH_AT = 2;
    private static final int DATA_AT = 3;
    private static final int MAX_LENGTH = 36;
    /** The blocks of a file with the greatest length. */
    private static final int MAX_ROW = 5;
    private static final int FIRST_REACH = 4;
    private static final int MAX_REACH = 23;
    private static final int MAX_LOOKS = 20000;
    private static final int MAX_FILES = 40;
    private static final int MAX_GROUPS = 6;
    /** What write answers where the hand stays. */
    private static final int NOT_RIGHT = -1;
    private static final int NO_ROOM = -2;
    /** What search answers where it tells no files. */
    private static final int TOO_MANY_FILES = -1;
    private static final int TOO_MANY_LOOKS = -2;
    /** What file is asked for. */
    private static final int OF_MAKE = 0;
    private static final int OF_LENGTH = 1;
    private static final int OF_COST = 2;
    private static final int OF_SURE = 3;
    private static final int OF_SIZE = 4;
    private static final int OF_BLOCKS = 5;

    private final Make[] makes;
    private int makeCount;
    private final Disk disk;
    private final Hand hand;
    private int reachNow;
    private final Files files;
    private final Walk walk;
    private final Cover cover;
    private int latestLooks;

    public RescueBench() {
        makes = new Make[MAX_MAKES];
        makeCount = 0;
        disk = new Disk();
        hand = new Hand();
        reachNow = FIRST_REACH;
        files = new Files();
        walk = new Walk(disk, files);
        cover = new Cover(files);
        latestLooks = 0;
    }

    public int make(int first, int second, int check) throws IllegalArgumentException, IllegalStateException {
        if (!isByte(first) || !isByte(second)) {
            throw new IllegalArgumentException("a head byte is not 0 to 255");
        }
        if (check < 0 || check >= CHECKS) {
            throw new IllegalArgumentException("no such check");
        }
        if (makeCount >= MAX_MAKES) {
            throw new IllegalStateException("there are 6 makes");
        }
        makes[makeCount] = new Make(first, second, check);
        makeCount++;
        return makeCount - 1;
    }

    public int edge(int make, int from, int low, int high, int to)
            throws IndexOutOfBoundsException, IllegalArgumentException, IllegalStateException {
        Make kind = neededMake(make);
        if (!isState(from) || !isState(to)) {
            throw new IllegalArgumentException("a state is not 0 to 15");
        }
        if (!isByte(low) || !isByte(high) || low > high) {
            throw new IllegalArgumentException("bytes are not 0 to 255, or low is above high");
        }
        if (kind.edgeCount() >= MAX_EDGES) {
            throw new IllegalStateException("there are 40 edges");
        }
        kind.addEdge(from, low, high, to);
        return kind.edgeCount();
    }

    public int goals(int make, int bits) throws IndexOutOfBoundsException, IllegalArgumentException {
        Make kind = neededMake(make);
        if (bits < 0 || bits > ALL_STATES) {
            throw new IllegalArgumentException("goals are not 0 to 65,535");
        }
        return kind.exchangeGoals(bits);
    }

    public int block(long bytes) {
        return disk.add(bytes);
    }

    public long change(int block, long bytes) throws IndexOutOfBoundsException {
        return disk.exchange(neededBlock(block), bytes);
    }

    public long bytes(int block) throws IndexOutOfBoundsException {
        return disk.allOf(neededBlock(block));
    }

    public int reach(int n) throws IllegalArgumentException {
        if (n < 1 || n > MAX_REACH) {
            throw new IllegalArgumentException("reach is not 1 to 23");
        }
        int before = reachNow;
        reachNow = n;
        return before;
    }

    public int push(int b) throws IllegalArgumentException {
        if (!isByte(b)) {
            throw new IllegalArgumentException("not a byte from 0 to 255");
        }
        return hand.add(b);
    }

    public int write(int make) throws IndexOutOfBoundsException {
        Make kind = neededMake(make);
        if (!hand.isRightFor(kind)) {
            return NOT_RIGHT;
        }
        int first = disk.size();
        int needed = blocksOf(hand.size());
        if (first + needed > MAX_BLOCKS) {
            return NO_ROOM;
        }
        for (int i = 0; i < needed; i++) {
            disk.add(hand.blockOfFile(kind, i));
        }
        hand.empty();
        return first;
    }

    public int search() {
        files.begin(disk);
        walk.begin(reachNow, true);
        for (int first = 0; first < disk.size(); first++) {
            walkFrom(first);
        }
        latestLooks = walk.looks();
        boolean manyFiles = files.areTooMany();
        if (walk.isTooLong() || manyFiles) {
            files.tellNone();
        }
        cover.choose();
        if (walk.isTooLong()) {
            return TOO_MANY_LOOKS;
        }
        return manyFiles ? TOO_MANY_FILES : files.size();
    }

    public int file(int k, int what) throws IndexOutOfBoundsException, IllegalArgumentException {
        int number = neededFile(k);
        if (what < 0) {
            throw new IllegalArgumentException("what is below 0");
        }
        switch (what) {
            case OF_MAKE:
                return files.makeOf(number);
            case OF_LENGTH:
                return files.lengthOf(number);
            case OF_COST:
                return files.costOf(number);
            case OF_SURE:
                return files.isSure(number) ? 1 : 0;
            case OF_SIZE:
                return files.sizeOf(number);
            default:
                return files.blockOf(number, what - OF_BLOCKS);
        }
    }

    public int data(int k, int i) throws IndexOutOfBoundsException {
        return files.dataByteOf(neededFile(k), i);
    }

    public int torn(int block) throws IndexOutOfBoundsException {
        int first = neededBlock(block);
        walk.begin(reachNow, false);
        walkFrom(first);
        return walk.isTooLong() ? NONE : walk.longest();
    }

    public int best() {
        return cover.isTold() ? cover.blocksInAll() : NONE;
    }

    public int cost() {
        return cover.isTold() ? cover.costInAll() : NONE;
    }

    public int covers(int i) {
        return cover.isTold() ? cover.fileAt(i) : NONE;
    }

    public int nobody(int i) {
        return cover.isTold() ? cover.freeBlockAt(i) : NONE;
    }

    public int check(int make) throws IndexOutOfBoundsException {
        return hand.checkByte(neededMake(make));
    }

    public int count(int what) {
        switch (what) {
            case 0:
                return disk.size();
            case 1:
                return makeCount;
            case 2:
                return hand.size();
            case 3:
                return files.size();
            case 4:
                return reachNow;
            case 5:
                return latestLooks;
            default:
                return NONE;
        }
    }

    private void walkFrom(int first) {
        for (int number = 0; number < MAX_MAKES; number++) {
            Make kind = makes[number];
            if (kind != null) {
                walk.lookFrom(kind, number, first);
            }
        }
    }

    private Make neededMake(int number) {
        Make kind = number >= 0 && number < MAX_MAKES ? makes[number] : null;
        if (kind == null) {
            throw new IndexOutOfBoundsException("no such make");
        }
        return kind;
    }

    private int neededBlock(int number) {
        if (number < 0 || number >= disk.size()) {
            throw new IndexOutOfBoundsException("no such block");
        }
        return number;
    }

    private int neededFile(int number) {
        if (number < 0 || number >= files.size()) {
            throw new IndexOutOfBoundsException("no such file");
        }
        return number;
    }

    private static boolean isByte(int value) {
        return value >= 0 && value < BYTES;
    }

    private static boolean isState(int value) {
        return value >= 0 && value < STATES;
    }

    private static int byteOf(long block, int place) {
        return (int) (block >>> (BYTE_BITS * (BLOCK_BYTES - 1 - place))) & LAST_BYTE;
    }

    /** Shifted twice, since a shift by all 64 bits would be none. */
    private static boolean isZeroBehind(long block, int place) {
        return block << (BYTE_BITS * place) << BYTE_BITS == 0;
    }

    /** How many blocks a file of this length has; its check byte stands behind the data. */
    private static int blocksOf(int length) {
        return (DATA_AT + length) / BLOCK_BYTES + 1;
    }

    /** A make of files: its head, its check, and its machine, whose states are held as the bits of one number. */
    private static final class Make {
        private static final int START = 1;

        private final int firstHead;
        private final int secondHead;
        private final int kindOfCheck;
        private int goalBits;
        private int edges;
        /** For each byte and each state, the states that edges lead to: quicker than going through the edges. */
        private final int[] steps;

        Make(int first, int second, int kind) {
            firstHead = first;
            secondHead = second;
            kindOfCheck = kind;
            goalBits = 0;
            edges = 0;
            steps = new int[BYTES * STATES];
        }

        int firstHead() {
            return firstHead;
        }

        int secondHead() {
            return secondHead;
        }

        int edgeCount() {
            return edges;
        }

        /** Takes states and bytes that have been tested. */
        void addEdge(int from, int low, int high, int to) {
            for (int value = low; value <= high; value++) {
                steps[value * STATES + from] |= 1 << to;
            }
            edges++;
        }

        int exchangeGoals(int bits) {
            int before = goalBits;
            goalBits = bits;
            return before;
        }

        /** The states that can be behind a byte, where those of the given bits could be ahead of it. */
        int stepFrom(int states, int value) {
            int next = 0;
            int at = (value & LAST_BYTE) * STATES;
            int rest = states;
            for (int state = 0; state < STATES && rest != 0; state++) {
                if ((rest & 1) != 0) {
                    next |= steps[at + state];
                }
                rest >>>= 1;
            }
            return next;
        }

        boolean mayEndIn(int states) {
            return (states & goalBits) != 0;
        }

        /** The check of some bytes and one more. */
        int checkWith(int checkSoFar, int value) {
            if (kindOfCheck == SUM) {
                return (checkSoFar + value) & LAST_BYTE;
            }
            return kindOfCheck == XOR ? checkSoFar ^ value : crcStep(checkSoFar ^ value);
        }

        /**
         * The eight doublings of the CRC in one go: each bit that leaves at the top comes back as 7, which is three
         * bits side by side, so all eight come back as the value three times; two of these bits leave once more.
         */
        private static int crcStep(int value) {
            int back = value ^ (value << 1) ^ (value << 2);
            int over = back >>> BYTE_BITS;
            return (back ^ over ^ (over << 1) ^ (over << 2)) & LAST_BYTE;
        }
    }

    /** Blocks of eight bytes, each held as one number with the highest byte first. */
    private static final class Disk {
        private final long[] blocks;
        private int used;

        Disk() {
            blocks = new long[MAX_BLOCKS];
            used = 0;
        }

        int size() {
            return used;
        }

        int add(long bytes) {
            if (used >= MAX_BLOCKS) {
                return NONE;
            }
            blocks[used] = bytes;
            used++;
            return used - 1;
        }

        long allOf(int number) {
            return number >= 0 && number < used ? blocks[number] : 0;
        }

        long exchange(int number, long bytes) {
            long before = allOf(number);
            if (number >= 0 && number < used) {
                blocks[number] = bytes;
            }
            return before;
        }

        int byteAt(int number, int place) {
            return byteOf(allOf(number), place);
        }

        void becomeLike(Disk other) {
            System.arraycopy(other.blocks, 0, blocks, 0, MAX_BLOCKS);
            used = other.used;
        }
    }

    /** The row of bytes that becomes the data of a written file. */
    private static final class Hand {
        private final int[] held;
        private int used;

        Hand() {
            held = new int[MAX_LENGTH];
            used = 0;
        }

        int size() {
            return used;
        }

        int add(int value) {
            if (used >= MAX_LENGTH) {
                return NONE;
            }
            held[used] = value;
            used++;
            return used;
        }

        void empty() {
            used = 0;
        }

        boolean isRightFor(Make kind) {
            int states = Make.START;
            for (int i = 0; i < used; i++) {
                states = kind.stepFrom(states, held[i]);
            }
            return kind.mayEndIn(states);
        }

        int checkByte(Make kind) {
            int soFar = 0;
            for (int place = 0; place < DATA_AT + used; place++) {
                soFar = kind.checkWith(soFar, byteAheadOfCheck(kind, place));
            }
            return soFar;
        }

        long blockOfFile(Make kind, int number) {
            long all = 0;
            for (int i = 0; i < BLOCK_BYTES; i++) {
                all = (all << BYTE_BITS) | byteOfFile(kind, number * BLOCK_BYTES + i);
            }
            return all;
        }

        private int byteOfFile(Make kind, int place) {
            if (place < DATA_AT + used) {
                return byteAheadOfCheck(kind, place);
            }
            return place == DATA_AT + used ? checkByte(kind) : 0;
        }

        private int byteAheadOfCheck(Make kind, int place) {
            if (place >= DATA_AT) {
                return place - DATA_AT < used ? held[place - DATA_AT] : 0;
            }
            if (place == LENGTH_AT) {
                return used;
            }
            return place == 0 ? kind.firstHead() : kind.secondHead();
        }
    }

    /** The files that the latest search told, in order, and the disk as it was then. */
    private static final class Files {
        private static final int BLOCK_BITS = 5;
        private static final int MAKE_BITS = 3;

        private final Disk then;
        /**
         * A file is one number: from the highest bits on its blocks, each one more than it is, 0 where there is none,
         * and last its make. So the files' order is that of the numbers.
         */
        private final int[] keys;
        private int used;
        private boolean tooMany;

        Files() {
            then = new Disk();
            keys = new int[MAX_FILES];
            used = 0;
            tooMany = false;
        }

        void begin(Disk now) {
            then.becomeLike(now);
            tellNone();
        }

        void tellNone() {
            used = 0;
            tooMany = false;
        }

        int size() {
            return used;
        }

        boolean areTooMany() {
            return tooMany;
        }

        int blocksThen() {
            return then.size();
        }

        void add(int[] row, int rowSize, int make) {
            if (used >= MAX_FILES) {
                tooMany = true;
                return;
            }
            int key = keyOf(row, rowSize, make);
            int at = used;
            while (at > 0 && keys[at - 1] > key) {
                keys[at] = keys[at - 1];
                at--;
            }
            keys[at] = key;
            used++;
        }

        private static int keyOf(int[] row, int rowSize, int make) {
            int key = 0;
            for (int i = 0; i < MAX_ROW; i++) {
                key = (key << BLOCK_BITS) | (i < rowSize && i < row.length ? row[i] + 1 : 0);
            }
            return (key << MAKE_BITS) | make;
        }

        private int keyAt(int k) {
            return k >= 0 && k < used ? keys[k] : 0;
        }

        int makeOf(int k) {
            return keyAt(k) & ((1 << MAKE_BITS) - 1);
        }

        int blockOf(int k, int i) {
            if (i < 0 || i >= MAX_ROW) {
                return NONE;
            }
            int behind = MAKE_BITS + BLOCK_BITS * (MAX_ROW - 1 - i);
            return ((keyAt(k) >>> behind) & ((1 << BLOCK_BITS) - 1)) - 1;
        }

        int lengthOf(int k) {
            return then.byteAt(blockOf(k, 0), LENGTH_AT);
        }

        int sizeOf(int k) {
            int size = 0;
            while (size < MAX_ROW && blockOf(k, size) != NONE) {
                size++;
            }
            return size;
        }

        int costOf(int k) {
            int sum = 0;
            int size = sizeOf(k);
            for (int i = 1; i < size; i++) {
                sum += Math.abs(blockOf(k, i) - (blockOf(k, i - 1) + 1));
            }
            return sum;
        }

        int blockBitsOf(int k) {
            int bits = 0;
            int size = sizeOf(k);
            for (int i = 0; i < size; i++) {
                bits |= 1 << blockOf(k, i);
            }
            return bits;
        }

        boolean isSure(int k) {
            for (int other = 0; other < used; other++) {
                if (other != k && blockOf(other, 0) == blockOf(k, 0)) {
                    return false;
                }
            }
            return true;
        }

        int dataByteOf(int k, int i) {
            if (i < 0 || i >= lengthOf(k)) {
                return NONE;
            }
            int place = DATA_AT + i;
            return then.byteAt(blockOf(k, place / BLOCK_BYTES), place % BLOCK_BYTES);
        }
    }

    /** A walk through the rows that fit, from a first block on, with its looks counted. */
    private static final class Walk {
        private final Disk disk;
        private final Files files;
        private int reach;
        private boolean keeps;
        private int looks;
        private int longest;
        private int makeNumber;
        /** The row, and behind each block of it the states that can be there and the check of all bytes so far. */
        private final int[] row;
        private final int[] statesBehind;
        private final int[] checkBehind;
        /** Of the row that is being read. */
        private int checkAt;
        private int states;
        private int check;

        Walk(Disk disk, Files files) {
            this.disk = disk;
            this.files = files;
            reach = FIRST_REACH;
            keeps = false;
            looks = 0;
            longest = 0;
            makeNumber = 0;
            row = new int[MAX_ROW];
            statesBehind = new int[MAX_ROW];
            checkBehind = new int[MAX_ROW];
            checkAt = DATA_AT;
            states = 0;
            check = 0;
        }

        void begin(int reachNow, boolean keepsFiles) {
            reach = reachNow;
            keeps = keepsFiles;
            looks = 0;
            longest = 0;
        }

        int looks() {
            return looks;
        }

        boolean isTooLong() {
            return looks > MAX_LOOKS;
        }

        int longest() {
            return longest;
        }

        void lookFrom(Make kind, int number, int first) {
            makeNumber = number;
            lookAt(kind, 0, first, 0);
        }

        /** One look, at a block behind the row of the given size, and all those that follow from it. */
        private void lookAt(Make kind, int size, int block, int blockBits) {
            if (isTooLong() || size >= MAX_ROW) {
                return;
            }
            looks++;
            if (isTooLong() || !fits(kind, size, block)) {
                return;
            }
            row[size] = block;
            longest = Math.max(longest, size + 1);
            if (checkAt / BLOCK_BYTES == size) {
                keepRow(size + 1);
                return;
            }
            int bits = blockBits | (1 << block);
            int last = Math.min(disk.size() - 1, block + reach);
            for (int next = Math.max(0, block - reach); next <= last; next++) {
                if (((bits >>> next) & 1) == 0) {
                    lookAt(kind, size + 1, next, bits);
                }
            }
        }

        private void keepRow(int size) {
            if (keeps) {
                files.add(row, size, makeNumber);
            }
        }

        /** Whether a row that fits goes on fitting with this block behind it. */
        private boolean fits(Make kind, int size, int block) {
            long all = disk.allOf(block);
            if (size == 0 && !readsHead(kind, all)) {
                return false;
            }
            int dataLeft = checkAt - size * BLOCK_BYTES;
            int end = Math.min(dataLeft, BLOCK_BYTES);
            boolean hasCheck = dataLeft < BLOCK_BYTES;
            // Asked ahead of the data, since this is the quickest way to see that a block is no last one.
            if (hasCheck && !isZeroBehind(all, end)) {
                return false;
            }
            readAheadOfCheck(kind, size, all, end);
            boolean right = dataLeft <= BLOCK_BYTES ? kind.mayEndIn(states) : states != 0;
            if (!right || (hasCheck && byteOf(all, end) != check)) {
                return false;
            }
            statesBehind[size] = states;
            checkBehind[size] = check;
            return true;
        }

        private boolean readsHead(Make kind, long all) {
            int length = byteOf(all, LENGTH_AT);
            checkAt = DATA_AT + length;
            return byteOf(all, 0) == kind.firstHead() && byteOf(all, 1) == kind.secondHead() && length <= MAX_LENGTH;
        }

        /** Reads what a block has ahead of the check, from where the row ahead of it ended. */
        private void readAheadOfCheck(Make kind, int size, long all, int end) {
            states = size == 0 ? Make.START : statesBehind[size - 1];
            check = size == 0 ? 0 : checkBehind[size - 1];
            int dataAt = size == 0 ? DATA_AT : 0;
            for (int i = 0; i < end && states != 0; i++) {
                int value = byteOf(all, i);
                check = kind.checkWith(check, value);
                if (i >= dataAt) {
                    states = kind.stepFrom(states, value);
                }
            }
        }
    }

    /** The best cover of the latest search. Files with one first block are a group: a cover has one of them at most. */
    private static final class Cover {
        /** So far apart that no cost in all weighs as much as one block, and no number of files as much as one cost. */
        private static final int BLOCK_GAIN = 100000;
        private static final int COST_LOSS = 10;

        private final Files files;
        private int groups;
        /** The first file of each group; one more than the last file behind all groups. */
        private final int[] groupAt;
        private final int[] gains;
        private final int[] blockBits;
        /** The most that the groups from one on could still gain, if none were in another's way. */
        private final int[] hopes;
        private final int[] tried;
        private final int[] chosen;
        private int chosenCount;
        private int chosenGain;
        private int chosenBits;

        Cover(Files files) {
            this.files = files;
            groups = 0;
            groupAt = new int[MAX_GROUPS + 1];
            gains = new int[MAX_FILES];
            blockBits = new int[MAX_FILES];
            hopes = new int[MAX_GROUPS + 1];
            tried = new int[MAX_GROUPS];
            chosen = new int[MAX_GROUPS];
            chosenCount = 0;
            chosenGain = 0;
            chosenBits = 0;
        }

        void choose() {
            chosenCount = 0;
            chosenGain = NONE;
            chosenBits = 0;
            findGroups();
            if (isTold()) {
                weighFiles();
                tryGroup(0, 0, 0, 0);
            }
        }

        boolean isTold() {
            return groups <= MAX_GROUPS;
        }

        private void findGroups() {
            groups = 0;
            Arrays.fill(groupAt, files.size());
            for (int k = 0; k < files.size(); k++) {
                if (k == 0 || files.blockOf(k, 0) != files.blockOf(k - 1, 0)) {
                    if (groups < MAX_GROUPS) {
                        groupAt[groups] = k;
                    }
                    groups++;
                }
            }
        }

        private void weighFiles() {
            Arrays.fill(hopes, 0);
            for (int group = groups - 1; group >= 0; group--) {
                int most = 0;
                for (int k = groupAt[group]; k < groupAt[group + 1]; k++) {
                    gains[k] = files.sizeOf(k) * BLOCK_GAIN - files.costOf(k) * COST_LOSS - 1;
                    blockBits[k] = files.blockBitsOf(k);
                    most = Math.max(most, gains[k]);
                }
                hopes[group] = hopes[group + 1] + most;
            }
        }

        /**
         * Tries each file of a group, rising, and none of it last: so covers of as many files come in their order, and
         * the first one of those that gain the most is kept.
         */
        private void tryGroup(int group, int count, int bits, int gain) {
            if (group > groups || group > MAX_GROUPS || gain + hopes[group] <= chosenGain) {
                return;
            }
            if (group == groups) {
                keepTried(count, bits, gain);
                return;
            }
            for (int k = groupAt[group]; k < groupAt[group + 1]; k++) {
                if ((blockBits[k] & bits) == 0) {
                    tried[count] = k;
                    tryGroup(group + 1, count + 1, bits | blockBits[k], gain + gains[k]);
                }
            }
            tryGroup(group + 1, count, bits, gain);
        }

        private void keepTried(int count, int bits, int gain) {
            System.arraycopy(tried, 0, chosen, 0, MAX_GROUPS);
            chosenCount = count;
            chosenGain = gain;
            chosenBits = bits;
        }

        int blocksInAll() {
            return Integer.bitCount(chosenBits);
        }

        int costInAll() {
            int sum = 0;
            for (int i = 0; i < chosenCount; i++) {
                sum += files.costOf(chosen[i]);
            }
            return sum;
        }

        int fileAt(int i) {
            return i >= 0 && i < chosenCount ? chosen[i] : NONE;
        }

        int freeBlockAt(int i) {
            int left = i;
            for (int block = 0; block < files.blocksThen(); block++) {
                if (((chosenBits >>> block) & 1) == 0) {
                    if (left == 0) {
                        return block;
                    }
                    left--;
                }
            }
            return NONE;
        }
    }
}
