import java.util.ArrayList;
import java.util.Comparator;
import java.util.HashSet;
import java.util.List;
import java.util.Set;

/**
 * The document once more, word by word and as slow as it likes: each row is read anew from its first byte, each cover
 * is compared with each other one. It shares nothing with RescueBench, so that the two can be held side by side.
 */
final class SlowBench {
    static final class Edge {
        int from;
        int low;
        int high;
        int to;
    }

    static final class Kind {
        int first;
        int second;
        int check;
        int goals;
        final List<Edge> edges = new ArrayList<>();
    }

    static final class Found {
        int make;
        List<Integer> row;
        List<Integer> bytes;

        int length() {
            return bytes.get(2);
        }

        int cost() {
            int sum = 0;
            for (int i = 1; i < row.size(); i++) {
                sum += Math.abs(row.get(i) - row.get(i - 1) - 1);
            }
            return sum;
        }
    }

    private static final Comparator<Found> ORDER = (a, b) -> {
        int rows = comparedRows(a.row, b.row);
        return rows != 0 ? rows : Integer.compare(a.make, b.make);
    };

    private final List<Kind> kinds = new ArrayList<>();
    private final List<Long> disk = new ArrayList<>();
    private final List<Integer> hand = new ArrayList<>();
    private int reach = 4;
    private List<Found> files = new ArrayList<>();
    private List<Integer> bestFiles = new ArrayList<>();
    private boolean told = true;
    private int blocksThen = 0;
    private long looks = 0;
    private long walked = 0;
    private int longest = 0;

    private static int comparedRows(List<Integer> a, List<Integer> b) {
        for (int i = 0; i < a.size() && i < b.size(); i++) {
            if (!a.get(i).equals(b.get(i))) {
                return Integer.compare(a.get(i), b.get(i));
            }
        }
        return Integer.compare(a.size(), b.size());
    }

    private static void argument(boolean right) {
        if (!right) {
            throw new IllegalArgumentException();
        }
    }

    private static void state(boolean right) {
        if (!right) {
            throw new IllegalStateException();
        }
    }

    private static void bounds(int index, int size) {
        if (index < 0 || index >= size) {
            throw new IndexOutOfBoundsException();
        }
    }

    private static boolean within(int value, int low, int high) {
        return low <= value && value <= high;
    }

    int make(int first, int second, int check) {
        argument(within(first, 0, 255) && within(second, 0, 255) && within(check, 0, 2));
        state(kinds.size() < 6);
        Kind kind = new Kind();
        kind.first = first;
        kind.second = second;
        kind.check = check;
        kinds.add(kind);
        return kinds.size() - 1;
    }

    int edge(int make, int from, int low, int high, int to) {
        bounds(make, kinds.size());
        argument(within(from, 0, 15) && within(to, 0, 15));
        argument(within(low, 0, 255) && within(high, 0, 255) && low <= high);
        List<Edge> edges = kinds.get(make).edges;
        state(edges.size() < 40);
        Edge edge = new Edge();
        edge.from = from;
        edge.low = low;
        edge.high = high;
        edge.to = to;
        edges.add(edge);
        return edges.size();
    }

    int goals(int make, int bits) {
        bounds(make, kinds.size());
        argument(within(bits, 0, 65535));
        int before = kinds.get(make).goals;
        kinds.get(make).goals = bits;
        return before;
    }

    int block(long bytes) {
        if (disk.size() == 24) {
            return -1;
        }
        disk.add(bytes);
        return disk.size() - 1;
    }

    long change(int block, long bytes) {
        bounds(block, disk.size());
        return disk.set(block, bytes);
    }

    long bytes(int block) {
        bounds(block, disk.size());
        return disk.get(block);
    }

    int reach(int n) {
        argument(within(n, 1, 23));
        int before = reach;
        reach = n;
        return before;
    }

    int push(int b) {
        argument(within(b, 0, 255));
        if (hand.size() == 36) {
            return -1;
        }
        hand.add(b);
        return hand.size();
    }

    int write(int make) {
        bounds(make, kinds.size());
        Kind kind = kinds.get(make);
        if (!endsInGoal(kind, statesBehind(kind, hand))) {
            return -1;
        }
        List<Integer> all = aheadOfCheck(kind);
        all.add(checkOf(kind, all));
        while (all.size() % 8 != 0) {
            all.add(0);
        }
        if (disk.size() + all.size() / 8 > 24) {
            return -2;
        }
        int first = disk.size();
        for (int at = 0; at < all.size(); at += 8) {
            long block = 0;
            for (int i = 0; i < 8; i++) {
                block = block * 256 + all.get(at + i);
            }
            disk.add(block);
        }
        hand.clear();
        return first;
    }

    private List<Integer> aheadOfCheck(Kind kind) {
        List<Integer> all = new ArrayList<>(List.of(kind.first, kind.second, hand.size()));
        all.addAll(hand);
        return all;
    }

    private static int checkOf(Kind kind, List<Integer> bytes) {
        int value = 0;
        for (int b : bytes) {
            if (kind.check == 0) {
                value = (value + b) % 256;
            } else {
                value ^= b;
            }
            for (int i = 0; kind.check == 2 && i < 8; i++) {
                value = value >= 128 ? (value * 2 % 256) ^ 7 : value * 2;
            }
        }
        return value;
    }

    private static Set<Integer> statesBehind(Kind kind, List<Integer> data) {
        Set<Integer> states = new HashSet<>(Set.of(0));
        for (int b : data) {
            Set<Integer> next = new HashSet<>();
            for (Edge edge : kind.edges) {
                if (states.contains(edge.from) && within(b, edge.low, edge.high)) {
                    next.add(edge.to);
                }
            }
            states = next;
        }
        return states;
    }

    private static boolean endsInGoal(Kind kind, Set<Integer> states) {
        for (int state : states) {
            if ((kind.goals >> state) % 2 == 1) {
                return true;
            }
        }
        return false;
    }

    private static List<Integer> bytesOf(List<Long> disk, List<Integer> row) {
        List<Integer> all = new ArrayList<>();
        for (int block : row) {
            for (int i = 0; i < 8; i++) {
                all.add((int) (disk.get(block) >> (56 - 8 * i) & 255));
            }
        }
        return all;
    }

    private static boolean fits(Kind kind, List<Integer> all) {
        if (all.get(0) != kind.first || all.get(1) != kind.second || all.get(2) > 36) {
            return false;
        }
        int length = all.get(2);
        int wholeSize = (length + 4 + 7) / 8 * 8;
        if (all.size() > wholeSize) {
            return false;
        }
        int end = Math.min(all.size(), 3 + length);
        Set<Integer> states = statesBehind(kind, all.subList(3, end));
        boolean ended = end == 3 + length;
        if (ended ? !endsInGoal(kind, states) : states.isEmpty()) {
            return false;
        }
        if (all.size() > 3 + length && all.get(3 + length) != checkOf(kind, all.subList(0, 3 + length))) {
            return false;
        }
        for (int i = 4 + length; i < all.size(); i++) {
            if (all.get(i) != 0) {
                return false;
            }
        }
        return true;
    }

    private void walk(int make, List<Integer> row, List<Found> into) {
        walked++;
        List<Integer> all = bytesOf(disk, row);
        if (walked > 20000 || !fits(kinds.get(make), all)) {
            return;
        }
        longest = Math.max(longest, row.size());
        if (all.size() > 3 + all.get(2)) {
            Found file = new Found();
            file.make = make;
            file.row = row;
            file.bytes = all;
            into.add(file);
            return;
        }
        int last = row.get(row.size() - 1);
        for (int next = 0; next < disk.size(); next++) {
            if (Math.abs(next - last) <= reach && !row.contains(next)) {
                List<Integer> longer = new ArrayList<>(row);
                longer.add(next);
                walk(make, longer, into);
            }
        }
    }

    int search() {
        walked = 0;
        List<Found> all = new ArrayList<>();
        for (int first = 0; first < disk.size(); first++) {
            for (int make = 0; make < kinds.size(); make++) {
                walk(make, List.of(first), all);
            }
        }
        all.sort(ORDER);
        looks = Math.min(walked, 20001);
        blocksThen = disk.size();
        int answer = walked > 20000 ? -2 : all.size() > 40 ? -1 : all.size();
        files = answer < 0 ? new ArrayList<>() : all;
        chooseBest();
        return answer;
    }

    private void chooseBest() {
        Set<Integer> firsts = new HashSet<>();
        for (Found file : files) {
            firsts.add(file.row.get(0));
        }
        told = firsts.size() <= 6;
        bestFiles = new ArrayList<>();
        if (told) {
            tryCovers(0, new ArrayList<>(), new HashSet<>());
        }
    }

    private void tryCovers(int from, List<Integer> cover, Set<Integer> taken) {
        if (isBetter(cover, bestFiles)) {
            bestFiles = new ArrayList<>(cover);
        }
        for (int k = from; k < files.size(); k++) {
            Set<Integer> more = new HashSet<>(taken);
            more.addAll(files.get(k).row);
            if (more.size() == taken.size() + files.get(k).row.size()) {
                cover.add(k);
                tryCovers(k + 1, cover, more);
                cover.remove(cover.size() - 1);
            }
        }
    }

    private boolean isBetter(List<Integer> a, List<Integer> b) {
        if (blocksOf(a) != blocksOf(b)) {
            return blocksOf(a) > blocksOf(b);
        }
        if (costOf(a) != costOf(b)) {
            return costOf(a) < costOf(b);
        }
        if (a.size() != b.size()) {
            return a.size() < b.size();
        }
        return comparedRows(a, b) < 0;
    }

    private int blocksOf(List<Integer> cover) {
        int sum = 0;
        for (int k : cover) {
            sum += files.get(k).row.size();
        }
        return sum;
    }

    private int costOf(List<Integer> cover) {
        int sum = 0;
        for (int k : cover) {
            sum += files.get(k).cost();
        }
        return sum;
    }

    int file(int k, int what) {
        bounds(k, files.size());
        argument(what >= 0);
        Found file = files.get(k);
        if (what == 0) {
            return file.make;
        }
        if (what == 1) {
            return file.length();
        }
        if (what == 2) {
            return file.cost();
        }
        if (what == 3) {
            int same = 0;
            for (Found other : files) {
                same += other.row.get(0).equals(file.row.get(0)) ? 1 : 0;
            }
            return same == 1 ? 1 : 0;
        }
        if (what == 4) {
            return file.row.size();
        }
        return what - 5 < file.row.size() ? file.row.get(what - 5) : -1;
    }

    int data(int k, int i) {
        bounds(k, files.size());
        Found file = files.get(k);
        return within(i, 0, file.length() - 1) ? file.bytes.get(3 + i) : -1;
    }

    int torn(int block) {
        bounds(block, disk.size());
        walked = 0;
        longest = 0;
        for (int make = 0; make < kinds.size(); make++) {
            walk(make, List.of(block), new ArrayList<>());
        }
        return walked > 20000 ? -1 : longest;
    }

    int best() {
        return told ? blocksOf(bestFiles) : -1;
    }

    int cost() {
        return told ? costOf(bestFiles) : -1;
    }

    int covers(int i) {
        return told && within(i, 0, bestFiles.size() - 1) ? bestFiles.get(i) : -1;
    }

    int nobody(int i) {
        List<Integer> free = new ArrayList<>();
        for (int block = 0; told && block < blocksThen; block++) {
            boolean owned = false;
            for (int k : bestFiles) {
                owned |= files.get(k).row.contains(block);
            }
            if (!owned) {
                free.add(block);
            }
        }
        return within(i, 0, free.size() - 1) ? free.get(i) : -1;
    }

    int check(int make) {
        bounds(make, kinds.size());
        return checkOf(kinds.get(make), aheadOfCheck(kinds.get(make)));
    }

    int count(int what) {
        int[] all = {disk.size(), kinds.size(), hand.size(), files.size(), reach, (int) looks};
        return within(what, 0, 5) ? all[what] : -1;
    }
}
