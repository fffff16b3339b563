import java.util.ArrayDeque;
import java.util.ArrayList;
import java.util.Arrays;
import java.util.Deque;
import java.util.List;
import java.util.regex.Matcher;
import java.util.regex.Pattern;

/**
 * The document once more, in the slowest and plainest way: whole copies for what can be undone,
 * all ways tried for what is foretold. Answers of the program are held against it.
 */
final class Model {
    static final int NONE = -1000000, BAD = -1000001, STATE = -1000002, FULL = -1000003;
    private static final List<String> SORTS = List.of("?", "barge", "cog", "raft", "cart", "wain");
    private static final Pattern TOKEN = Pattern.compile("[a-z]+|[0-9]+|;|[^ \n]");
    private static final int[] WEIGHT = {3, 5, 7, 11};

    /** A FAULT, told by its place and number. */
    private static final class Fault extends Exception {
        private static final long serialVersionUID = 1L;
        final int place;
        final int number;

        Fault(int place, int number) {
            this.place = place;
            this.number = number;
        }
    }

    private static final class Arch {
        int under, over, high, toll;
        boolean shut;

        Arch copied() {
            Arch a = new Arch();
            a.under = under;
            a.over = over;
            a.high = high;
            a.toll = toll;
            a.shut = shut;
            return a;
        }
    }

    private static final class Boat {
        String sort;
        int mast;
        int[] has = new int[4];
        boolean gone;

        Boat copied() {
            Boat b = new Boat();
            b.sort = sort;
            b.mast = mast;
            b.has = has.clone();
            b.gone = gone;
            return b;
        }

        int all() {
            return Arrays.stream(has).sum();
        }

        long trades() {
            return Arrays.stream(has).filter(n -> n > 0).count();
        }

        boolean above() {
            return sort.equals("cart") || sort.equals("wain");
        }

        boolean letBy(int charter) {
            if (charter == 4) {
                return true;
            }
            for (int t = 0; t < 4; t++) {
                if (has[t] > 0 && t != charter) {
                    return false;
                }
            }
            return true;
        }
    }

    private static final class World {
        int[] tide = new int[12];
        List<Arch> arches = new ArrayList<>();
        List<Boat> boats = new ArrayList<>();
        int hour;
        int toll;
        /** "hour side arch" of each that went. */
        List<String> went = new ArrayList<>();

        World copied() {
            World w = new World();
            w.tide = tide.clone();
            arches.forEach(a -> w.arches.add(a.copied()));
            boats.forEach(b -> w.boats.add(b.copied()));
            w.hour = hour;
            w.toll = toll;
            w.went.addAll(went);
            return w;
        }
    }

    private final int[][] rows = new int[8][];
    private final int[] lanes = new int[8];
    private final StringBuilder tape = new StringBuilder();
    private World now;
    private final World[] images = new World[2];
    private final Deque<World> before = new ArrayDeque<>();
    private final List<Integer> trace = new ArrayList<>();
    private int fault;
    private int status;

    private int found(int number) {
        status = number;
        return -1000010 - number;
    }

    private int fine(int answer) {
        status = 0;
        return answer;
    }

    private static boolean in(int v, int least, int greatest) {
        return v >= least && v <= greatest;
    }

    private boolean isArch(int a) {
        return now != null && in(a, 0, now.arches.size() - 1);
    }

    private boolean isBoat(int b) {
        return now != null && in(b, 0, now.boats.size() - 1);
    }

    int row(int row, int lane, int n) {
        if (!in(row, 0, 7) || !in(lane, 0, 2) || n > 40) {
            return BAD;
        }
        if (n < 0) {
            return found(4);
        }
        rows[row] = new int[n];
        lanes[row] = lane;
        return fine(n);
    }

    int set(int row, int i, int v) {
        if (!in(row, 0, 7)) {
            return BAD;
        }
        if (rows[row] == null) {
            return found(1);
        }
        if (!in(i, 0, rows[row].length - 1)) {
            return found(2);
        }
        int bits = new int[] {8, 16, 32}[lanes[row]];
        rows[row][i] = v << (32 - bits) >> (32 - bits);
        return fine(rows[row][i]);
    }

    int copy(int a, int i, int b, int j, int n) {
        if (!in(a, 0, 7) || !in(b, 0, 7)) {
            return BAD;
        }
        if (rows[a] == null || rows[b] == null) {
            return found(1);
        }
        if (lanes[a] != lanes[b]) {
            return found(5);
        }
        if (i < 0 || j < 0 || n < 0 || (long) i + n > rows[a].length || (long) j + n > rows[b].length) {
            return found(2);
        }
        int[] ahead = rows[a].clone();
        for (int m = 0; m < n; m++) {
            rows[b][j + m] = ahead[i + m];
        }
        return fine(n);
    }

    int drop(int row) {
        if (!in(row, 0, 7)) {
            return BAD;
        }
        if (rows[row] == null) {
            return found(1);
        }
        int n = rows[row].length;
        rows[row] = null;
        return fine(n);
    }

    int feed(long w, int n) {
        if (!in(n, 1, 8)) {
            return BAD;
        }
        if (tape.length() + n > 500) {
            return FULL;
        }
        for (int i = n - 1; i >= 0; i--) {
            tape.append((char) (w >>> 8 * i & 255));
        }
        return tape.length();
    }

    /** The TOKENS of a text, one by one; each is looked at with its place. */
    private static final class Tokens {
        final List<String> words = new ArrayList<>();
        final List<Integer> places = new ArrayList<>();
        int at;

        Tokens(String text) {
            Matcher m = TOKEN.matcher(text);
            while (m.find()) {
                words.add(m.group());
                places.add(m.start());
            }
            words.add("");
            places.add(text.length());
        }

        String word() {
            return words.get(at);
        }

        Fault fault(int number) {
            return new Fault(places.get(at), number);
        }

        void want(String word) throws Fault {
            if (!word().equals(word)) {
                throw fault(1);
            }
            at++;
        }

        int number(int least, int greatest) throws Fault {
            if (!word().matches("[0-9]{1,3}")) {
                throw fault(1);
            }
            int v = Integer.parseInt(word());
            if (!in(v, least, greatest)) {
                throw fault(2);
            }
            at++;
            return v;
        }
    }

    private static World told(String text) throws Fault {
        World w = new World();
        Tokens t = new Tokens(text);
        t.want("tide");
        for (int h = 0; h < 12; h++) {
            w.tide[h] = t.number(0, 20);
        }
        t.want(";");
        do {
            if (t.word().equals("arch") && w.arches.size() == 6) {
                throw t.fault(3);
            }
            t.want("arch");
            Arch a = new Arch();
            a.under = t.number(0, 4);
            a.over = t.number(0, 4);
            a.high = t.number(1, 30);
            a.toll = t.number(0, 9);
            t.want(";");
            w.arches.add(a);
        } while (t.word().equals("arch"));
        while (!t.word().isEmpty()) {
            if (t.word().equals("boat") && w.boats.size() == 6) {
                throw t.fault(3);
            }
            t.want("boat");
            Boat b = new Boat();
            b.sort = t.word();
            if (SORTS.indexOf(b.sort) < 1) {
                throw t.fault(1);
            }
            t.at++;
            b.mast = t.number(0, 20);
            for (int trade = 0; trade < 4; trade++) {
                b.has[trade] = t.number(0, 9);
            }
            t.want(";");
            w.boats.add(b);
        }
        return w;
    }

    int bridge() {
        String text = tape.toString();
        tape.setLength(0);
        try {
            now = told(text);
            before.clear();
            return now.arches.size();
        } catch (Fault f) {
            fault = f.number;
            return -1000100 - f.place;
        }
    }

    int fault() {
        return fault;
    }

    private void act() {
        before.addLast(now.copied());
        if (before.size() > 24) {
            before.removeFirst();
        }
    }

    int lend(int arch, int which, int trade) {
        if (!isArch(arch) || !in(which, 0, 1) || !in(trade, 0, 4)) {
            return BAD;
        }
        act();
        Arch a = now.arches.get(arch);
        int was = which == 0 ? a.under : a.over;
        if (which == 0) {
            a.under = trade;
        } else {
            a.over = trade;
        }
        return was;
    }

    int shut(int arch, int is) {
        if (!isArch(arch) || !in(is, 0, 1)) {
            return BAD;
        }
        act();
        Arch a = now.arches.get(arch);
        int was = a.shut ? 1 : 0;
        a.shut = is == 1;
        return was;
    }

    private boolean goes(Boat b, Arch a, int charter, int hour) {
        if (a.shut || !b.letBy(charter)) {
            return false;
        }
        int tide = now.tide[hour];
        switch (b.sort) {
            case "raft": return a.high - tide >= b.mast / 2;
            case "cart": return tide <= a.high;
            case "wain": return tide <= a.high && a.high >= 10;
            default: return a.high - tide >= b.mast;
        }
    }

    private boolean goes(int boat, int arch, int hour) {
        Boat b = now.boats.get(boat);
        Arch a = now.arches.get(arch);
        return goes(b, a, b.above() ? a.over : a.under, hour);
    }

    private String mark(boolean above, int arch) {
        return now.hour + (above ? " above " : " below ") + arch;
    }

    int pass(int boat, int arch) {
        if (!isBoat(boat) || !isArch(arch)) {
            return BAD;
        }
        Boat b = now.boats.get(boat);
        if (b.gone || !goes(boat, arch, now.hour) || now.went.contains(mark(b.above(), arch))) {
            return STATE;
        }
        act();
        int toll = now.arches.get(arch).toll * b.all() * (b.trades() > 1 ? 2 : 1);
        b.gone = true;
        now.toll += toll;
        now.went.add(mark(b.above(), arch));
        return toll;
    }

    int split(int boat, int trade) {
        if (!isBoat(boat) || !in(trade, 0, 3)) {
            return BAD;
        }
        Boat b = now.boats.get(boat);
        if (b.gone || b.has[trade] == 0 || b.all() == b.has[trade]) {
            return STATE;
        }
        if (now.boats.size() == 6) {
            return FULL;
        }
        act();
        Boat added = new Boat();
        added.sort = b.sort;
        added.mast = b.mast;
        added.has[trade] = b.has[trade];
        b.has[trade] = 0;
        now.boats.add(added);
        return now.boats.size() - 1;
    }

    int hour() {
        if (now == null) {
            return STATE;
        }
        if (now.hour == 11) {
            return FULL;
        }
        act();
        return ++now.hour;
    }

    int undo() {
        if (before.isEmpty()) {
            return STATE;
        }
        now = before.removeLast();
        return before.size();
    }

    int arch(int arch, int what) {
        if (!isArch(arch) || !in(what, 0, 6)) {
            return BAD;
        }
        Arch a = now.arches.get(arch);
        int below = now.went.contains(mark(false, arch)) ? 1 : 0;
        int above = now.went.contains(mark(true, arch)) ? 1 : 0;
        return new int[] {a.under, a.over, a.high, a.toll, a.shut ? 1 : 0, below, above}[what];
    }

    int boat(int boat, int what) {
        if (!isBoat(boat) || !in(what, 0, 7)) {
            return BAD;
        }
        Boat b = now.boats.get(boat);
        int mixed = b.trades() > 1 ? 1 : 0;
        int porters = mixed == 0 ? 0 : b.all() - Arrays.stream(b.has).max().getAsInt();
        return new int[] {b.has[0], b.has[1], b.has[2], b.has[3], b.mast, b.gone ? 1 : 0, mixed, porters}[what];
    }

    int may(int boat, int hour) {
        if (!isBoat(boat) || !in(hour, 0, 11)) {
            return BAD;
        }
        int bits = 0;
        for (int a = 0; a < now.arches.size(); a++) {
            bits |= goes(boat, a, hour) ? 1 << a : 0;
        }
        return bits;
    }

    /**
     * All ways are tried, the first row first. A BOAT in the first row never needs more than its first six
     * places: one of them is free of the five others.
     */
    private final class Ways {
        final int[][] places = new int[now.boats.size()][];
        final int[] row = new int[now.boats.size()];
        int[] best = new int[0];
        int most = -1;

        Ways(int a, int b, int[] unders) {
            for (int boat = 0; boat < places.length; boat++) {
                List<Integer> list = new ArrayList<>();
                Boat of = now.boats.get(boat);
                for (int hour = a; hour <= b && !of.gone; hour++) {
                    for (int arch = 0; arch < now.arches.size(); arch++) {
                        Arch at = now.arches.get(arch);
                        if (list.size() < 6 && goes(of, at, of.above() ? at.over : unders[arch], hour)) {
                            list.add(6 * hour + arch);
                        }
                    }
                }
                places[boat] = list.stream().mapToInt(Integer::intValue).toArray();
            }
            go(0, 0);
        }

        private void go(int boat, int n) {
            if (n + places.length - boat <= most) {
                return;
            }
            if (boat == places.length) {
                most = n;
                best = row.clone();
                return;
            }
            for (int place : places[boat]) {
                boolean free = true;
                for (int other = 0; other < boat; other++) {
                    free &= row[other] != place || now.boats.get(other).above() != now.boats.get(boat).above();
                }
                if (free) {
                    row[boat] = place;
                    go(boat + 1, n + 1);
                }
            }
            row[boat] = NONE;
            go(boat + 1, n);
        }
    }

    private int[] unders() {
        return now.arches.stream().mapToInt(a -> a.under).toArray();
    }

    int most(int a, int b, int k) {
        if (now == null) {
            return STATE;
        }
        if (!in(a, 0, 11) || !in(b, a, 11) || !in(k, -1, now.boats.size() - 1)) {
            return BAD;
        }
        Ways ways = new Ways(a, b, unders());
        return k == -1 ? ways.most : ways.best[k];
    }

    private int bestDeal;
    private int[] bestRow;

    private void deal(int a, int b, int[] row, int at, int[] left) {
        if (at == row.length) {
            int n = new Ways(a, b, row).most;
            if (n > bestDeal) {
                bestDeal = n;
                bestRow = row.clone();
            }
            return;
        }
        for (int charter = 0; charter < 5; charter++) {
            if (left[charter] > 0) {
                left[charter]--;
                row[at] = charter;
                deal(a, b, row, at + 1, left);
                left[charter]++;
            }
        }
    }

    int anew(int a, int b, int k) {
        if (now == null) {
            return STATE;
        }
        if (!in(a, 0, 11) || !in(b, a, 11) || !in(k, -1, now.arches.size() - 1)) {
            return BAD;
        }
        int[] left = new int[5];
        for (int charter : unders()) {
            left[charter]++;
        }
        bestDeal = -1;
        deal(a, b, new int[now.arches.size()], 0, left);
        return k == -1 ? bestDeal : bestRow[k];
    }

    int cut(int tide, int mast) {
        if (now == null) {
            return STATE;
        }
        if (!in(tide, 0, 30) || !in(mast, 0, 20)) {
            return BAD;
        }
        int bits = 0;
        for (int trade = 0; trade < 4; trade++) {
            int t = trade;
            boolean by = now.arches.stream().anyMatch(a -> !a.shut && (a.under == t || a.under == 4) && a.high - tide >= mast);
            bits |= by ? 0 : 1 << trade;
        }
        return bits;
    }

    int weighed(int row, int i) {
        if (now == null) {
            return STATE;
        }
        if (!in(row, 0, 7)) {
            return BAD;
        }
        if (rows[row] == null) {
            return found(1);
        }
        if (i < 0 || (long) i + now.boats.size() > rows[row].length) {
            return found(2);
        }
        int bits = 0;
        for (int n = 0; n < now.boats.size(); n++) {
            int declared = rows[row][i + n];
            if (!in(declared, 0, 3)) {
                return BAD;
            }
            int[] has = now.boats.get(n).has;
            int weight = 0;
            int should = 0;
            for (int t = 0; t < 4; t++) {
                weight += has[t] * WEIGHT[t];
                should += has[t] * WEIGHT[declared];
            }
            bits |= weight != should ? 1 << n : 0;
        }
        return fine(bits);
    }

    int image(int k) {
        if (!in(k, 0, 1)) {
            return BAD;
        }
        if (now == null) {
            return STATE;
        }
        images[k] = now.copied();
        return 1;
    }

    int restore(int k) {
        if (!in(k, 0, 1)) {
            return BAD;
        }
        if (images[k] == null) {
            return STATE;
        }
        now = images[k].copied();
        before.clear();
        return 1;
    }

    int kind(int boat) {
        return isBoat(boat) ? SORTS.indexOf(now.boats.get(boat).sort) : BAD;
    }

    int as(int boat, int kind) {
        if (!isBoat(boat) || !in(kind, 0, 5)) {
            return BAD;
        }
        return Kinds.of(kind(boat)).is(kind) ? fine(boat) : found(3);
    }

    int ask(int boat, int what) {
        if (!isBoat(boat) || !in(what, 0, 1)) {
            return BAD;
        }
        trace.clear();
        Boat b = now.boats.get(boat);
        Kinds.Any any = Kinds.of(kind(boat));
        any.begin(boat, b.all(), b.mast, trace);
        return what == 0 ? any.size() : any.mark();
    }

    int trace(int i) {
        return in(i, 0, Math.min(16, trace.size()) - 1) ? trace.get(i) : NONE;
    }

    int count(int what) {
        if (!in(what, 0, 7)) {
            return BAD;
        }
        int there = (int) Arrays.stream(rows).filter(r -> r != null).count();
        if (now == null) {
            return what == 0 ? there : what == 7 ? tape.length() : 0;
        }
        int gone = (int) now.boats.stream().filter(b -> b.gone).count();
        return new int[] {there, now.arches.size(), now.boats.size(), now.hour, before.size(), gone, now.toll,
            tape.length()}[what];
    }

    int status() {
        return status;
    }
}
