import java.util.Arrays;

/**
 * A bridge whose arches let by one trade's boats below and another's carts above,
 * as ../shared/DOC.md tells. All room is made in the constructor: no call makes an
 * object, so that long runs stay small.
 */
public final class ArchTrades {
    public static final int NONE = -1000000, BAD = -1000001, STATE = -1000002, FULL = -1000003;

    private static final int FINDING_BASE = -1000010, FAULT_BASE = -1000100;
    private static final int FOUND_NULL = 1, FOUND_PLACE = 2, FOUND_KIND = 3, FOUND_SIZE = 4, FOUND_STORE = 5;

    private static final int HOURS = 12, ARCHES = 6, BOATS = 6, TRADES = 4, NOBODYS = 4;
    private static final int UNDER = 0, OVER = 1;
    private static final int BARGE = 1, COG = 2, RAFT = 3, CART = 4, WAIN = 5;
    private static final int MOST_TIDE = 20, MOST_MAST = 20, MOST_FLOOD = 30, WAIN_HIGH = 10;

    private static final int[] WEIGHTS = {3, 5, 7, 11};
    /** Of each KIND the nearest one that it is, too; of BOAT none. */
    private static final int[] NEAREST = {-1, 0, 1, 1, 0, 4};

    private final Rows rows = new Rows();
    private final Tape tape = new Tape();
    private final Reader reader = new Reader();
    private final Bridge now = new Bridge();
    private final Bridge firstImage = new Bridge();
    private final Bridge secondImage = new Bridge();
    private final Acts acts = new Acts();
    private final Foretold foretold = new Foretold();
    private final Asks asks = new Asks();
    private int latestFault;
    private int latestFinding;

    public ArchTrades() {
    }

    // ---- rows

    public int row(int row, int lane, int n) {
        if (!Rows.isRow(row) || lane < 0 || lane > Rows.INTS || n > Rows.ROOM) {
            return BAD;
        }
        if (n < 0) {
            return found(FOUND_SIZE);
        }
        rows.begin(row, lane, n);
        return unfound(n);
    }

    public int set(int row, int i, int v) {
        if (!Rows.isRow(row)) {
            return BAD;
        }
        if (rows.isMissing(row)) {
            return found(FOUND_NULL);
        }
        if (!rows.hasPlaces(row, i, 1)) {
            return found(FOUND_PLACE);
        }
        return unfound(rows.put(row, i, v));
    }

    public int copy(int a, int i, int b, int j, int n) {
        if (!Rows.isRow(a) || !Rows.isRow(b)) {
            return BAD;
        }
        if (rows.isMissing(a) || rows.isMissing(b)) {
            return found(FOUND_NULL);
        }
        if (rows.laneOf(a) != rows.laneOf(b)) {
            return found(FOUND_STORE);
        }
        if (!rows.hasPlaces(a, i, n) || !rows.hasPlaces(b, j, n)) {
            return found(FOUND_PLACE);
        }
        rows.move(a, i, b, j, n);
        return unfound(n);
    }

    public int drop(int row) {
        if (!Rows.isRow(row)) {
            return BAD;
        }
        if (rows.isMissing(row)) {
            return found(FOUND_NULL);
        }
        return unfound(rows.remove(row));
    }

    // ---- bridges, acts

    public int feed(long w, int n) {
        if (n < 1 || n > Tape.MOST_FED) {
            return BAD;
        }
        return tape.append(w, n) ? tape.size() : FULL;
    }

    public int bridge() {
        boolean isRead = reader.read(tape);
        int place = tape.tokenStart();
        tape.clear();
        if (!isRead) {
            latestFault = reader.faultNumber();
            return FAULT_BASE - place;
        }
        now.become(reader.result());
        acts.forget();
        return now.arches;
    }

    public int fault() {
        return latestFault;
    }

    public int lend(int arch, int which, int trade) {
        if (!now.isArch(arch) || which < UNDER || which > OVER || trade < 0 || trade > NOBODYS) {
            return BAD;
        }
        int was = now.charterOf(which, arch);
        now.giveCharter(which, arch, trade);
        acts.keep(Acts.LENT, arch, which, was);
        return was;
    }

    public int shut(int arch, int is) {
        if (!now.isArch(arch) || is < 0 || is > 1) {
            return BAD;
        }
        int was = bitOf(now.shutArches, arch);
        now.shutArches = withBit(now.shutArches, arch, is);
        acts.keep(Acts.SHUT, arch, was, 0);
        return was;
    }

    public int pass(int boat, int arch) {
        if (!now.isBoat(boat) || !now.isArch(arch)) {
            return BAD;
        }
        if (now.isGone(boat) || !now.letsBy(boat, arch, now.hourNow) || now.wentIn(now.sideOf(boat), arch) == 1) {
            return STATE;
        }
        int toll = now.tollOf(boat, arch);
        now.goBy(boat, arch, toll);
        acts.keep(Acts.WENT, boat, arch, toll);
        return toll;
    }

    public int split(int boat, int trade) {
        if (!now.isBoat(boat) || !isTrade(trade)) {
            return BAD;
        }
        if (now.isGone(boat) || now.loadOf(boat, trade) == 0 || !now.isMixed(boat)) {
            return STATE;
        }
        if (now.boats >= BOATS) {
            return FULL;
        }
        int added = now.splitOff(boat, trade);
        acts.keep(Acts.PARTED, boat, trade, 0);
        return added;
    }

    public int hour() {
        if (!now.stands) {
            return STATE;
        }
        if (now.hourNow >= HOURS - 1) {
            return FULL;
        }
        now.hourNow++;
        acts.keep(Acts.STRUCK, 0, 0, 0);
        return now.hourNow;
    }

    public int undo() {
        if (acts.kept() == 0) {
            return STATE;
        }
        acts.takeBack(now);
        return acts.kept();
    }

    public int arch(int arch, int what) {
        if (!now.isArch(arch)) {
            return BAD;
        }
        switch (what) {
            case 0: return now.charterOf(UNDER, arch);
            case 1: return now.charterOf(OVER, arch);
            case 2: return now.heights[arch];
            case 3: return now.tolls[arch];
            case 4: return bitOf(now.shutArches, arch);
            case 5: return now.wentIn(UNDER, arch);
            case 6: return now.wentIn(OVER, arch);
            default: return BAD;
        }
    }

    public int boat(int boat, int what) {
        if (!now.isBoat(boat)) {
            return BAD;
        }
        if (isTrade(what)) {
            return now.loadOf(boat, what);
        }
        switch (what) {
            case 4: return now.masts[boat];
            case 5: return bitOf(now.goneBoats, boat);
            case 6: return now.isMixed(boat) ? 1 : 0;
            case 7: return now.portersOf(boat);
            default: return BAD;
        }
    }

    // ---- foretold

    public int may(int boat, int hour) {
        if (!now.isBoat(boat) || !isHour(hour)) {
            return BAD;
        }
        int open = 0;
        for (int arch = 0; arch < now.arches; arch++) {
            open = withBit(open, arch, now.letsBy(boat, arch, hour) ? 1 : 0);
        }
        return open;
    }

    public int most(int a, int b, int k) {
        if (!now.stands) {
            return STATE;
        }
        if (!areHours(a, b) || k < -1 || k >= now.boats) {
            return BAD;
        }
        return k < 0 ? foretold.greatest(now, a, b) : foretold.whenGoes(now, a, b, k);
    }

    public int anew(int a, int b, int k) {
        if (!now.stands) {
            return STATE;
        }
        if (!areHours(a, b) || k < -1 || k >= now.arches) {
            return BAD;
        }
        int greatest = foretold.dealAnew(now, a, b);
        return k < 0 ? greatest : foretold.dealtTo(k);
    }

    public int cut(int tide, int mast) {
        if (!now.stands) {
            return STATE;
        }
        if (tide < 0 || tide > MOST_FLOOD || mast < 0 || mast > MOST_MAST) {
            return BAD;
        }
        return now.tradesCutOff(tide, mast);
    }

    public int weighed(int row, int i) {
        if (!now.stands) {
            return STATE;
        }
        if (!Rows.isRow(row)) {
            return BAD;
        }
        if (rows.isMissing(row)) {
            return found(FOUND_NULL);
        }
        if (!rows.hasPlaces(row, i, now.boats)) {
            return found(FOUND_PLACE);
        }
        return areTrades(row, i) ? unfound(falselyDeclared(row, i)) : BAD;
    }

    public int image(int k) {
        if (!isImage(k)) {
            return BAD;
        }
        if (!now.stands) {
            return STATE;
        }
        imageOf(k).become(now);
        return 1;
    }

    public int restore(int k) {
        if (!isImage(k)) {
            return BAD;
        }
        if (!imageOf(k).stands) {
            return STATE;
        }
        now.become(imageOf(k));
        acts.forget();
        return 1;
    }

    // ---- asked

    public int kind(int boat) {
        return now.isBoat(boat) ? now.sorts[boat] : BAD;
    }

    public int as(int boat, int kind) {
        if (!now.isBoat(boat) || kind < 0 || kind >= NEAREST.length) {
            return BAD;
        }
        return isKind(now.sorts[boat], kind) ? unfound(boat) : found(FOUND_KIND);
    }

    public int ask(int boat, int what) {
        if (!now.isBoat(boat) || what < Asks.SIZE || what > Asks.MARK) {
            return BAD;
        }
        return asks.answer(now, boat, what);
    }

    public int trace(int i) {
        return asks.traceAt(i);
    }

    public int count(int what) {
        switch (what) {
            case 0: return rows.present();
            case 1: return now.arches;
            case 2: return now.boats;
            case 3: return now.hourNow;
            case 4: return acts.kept();
            case 5: return Integer.bitCount(now.goneBoats);
            case 6: return now.tollHad;
            case 7: return tape.size();
            default: return BAD;
        }
    }

    public int status() {
        return latestFinding;
    }

    // ---- what the calls share

    private int found(int finding) {
        latestFinding = finding;
        return FINDING_BASE - finding;
    }

    private int unfound(int answer) {
        latestFinding = 0;
        return answer;
    }

    private boolean areTrades(int row, int from) {
        for (int boat = 0; boat < now.boats; boat++) {
            if (!isTrade(rows.itemAt(row, from + boat))) {
                return false;
            }
        }
        return true;
    }

    private int falselyDeclared(int row, int from) {
        int bits = 0;
        for (int boat = 0; boat < now.boats; boat++) {
            int due = now.allOf(boat) * WEIGHTS[rows.itemAt(row, from + boat)];
            bits = withBit(bits, boat, now.weightOf(boat) == due ? 0 : 1);
        }
        return bits;
    }

    private Bridge imageOf(int k) {
        return k == 0 ? firstImage : secondImage;
    }

    private static boolean isImage(int k) {
        return k == 0 || k == 1;
    }

    private static boolean isTrade(int trade) {
        return trade >= 0 && trade < TRADES;
    }

    private static boolean isHour(int hour) {
        return hour >= 0 && hour < HOURS;
    }

    private static boolean areHours(int a, int b) {
        return isHour(a) && isHour(b) && a <= b;
    }

    private static boolean isKind(int told, int wanted) {
        int kind = told;
        for (int step = 0; step < NEAREST.length && kind >= 0; step++) {
            if (kind == wanted) {
                return true;
            }
            kind = NEAREST[kind];
        }
        return false;
    }

    private static int bitOf(int bits, int i) {
        return (bits >> i) & 1;
    }

    private static int withBit(int bits, int i, int is) {
        return (bits & ~(1 << i)) | (is << i);
    }

    /** All ROWS stand side by side in one array. */
    private static final class Rows {
        private static final int COUNT = 8, ROOM = 40, BYTES = 0, SHORTS = 1, INTS = 2, MISSING = -1;

        private final int[] lanes = new int[COUNT];
        private final int[] sizes = {MISSING, MISSING, MISSING, MISSING, MISSING, MISSING, MISSING, MISSING};
        private final int[] items = new int[COUNT * ROOM];

        static boolean isRow(int row) {
            return row >= 0 && row < COUNT;
        }

        boolean isMissing(int row) {
            return sizes[row] == MISSING;
        }

        int laneOf(int row) {
            return lanes[row];
        }

        /** The end is told by a difference, since a sum of wild numbers would wrap around. */
        boolean hasPlaces(int row, int from, int n) {
            return from >= 0 && n >= 0 && from <= sizes[row] && n <= sizes[row] - from;
        }

        void begin(int row, int lane, int n) {
            lanes[row] = lane;
            sizes[row] = n;
            for (int i = 0; i < n; i++) {
                items[row * ROOM + i] = 0;
            }
        }

        int put(int row, int i, int v) {
            items[row * ROOM + i] = narrowed(lanes[row], v);
            return items[row * ROOM + i];
        }

        int itemAt(int row, int i) {
            return items[row * ROOM + i];
        }

        void move(int a, int i, int b, int j, int n) {
            System.arraycopy(items, a * ROOM + i, items, b * ROOM + j, n);
        }

        int remove(int row) {
            int had = sizes[row];
            sizes[row] = MISSING;
            return had;
        }

        int present() {
            int n = 0;
            for (int row = 0; row < COUNT; row++) {
                n += isMissing(row) ? 0 : 1;
            }
            return n;
        }

        private static int narrowed(int lane, int v) {
            if (lane == BYTES) {
                return (byte) v;
            }
            return lane == SHORTS ? (short) v : v;
        }
    }

    /** The bytes that were fed, and the TOKEN that is looked at. */
    private static final class Tape {
        private static final int ROOM = 500, MOST_FED = 8, MOST_FIGURES = 3;
        private static final int NO_TOKEN = 0, NAME = 1, NUMBER = 2, SIGN = 3, END = 4;

        private final byte[] bytes = new byte[ROOM];
        private int length;
        private int sort;
        private int start;
        private int end;

        int size() {
            return length;
        }

        void clear() {
            length = 0;
        }

        boolean append(long w, int n) {
            if (n > ROOM - length) {
                return false;
            }
            for (int left = n - 1; left >= 0; left--) {
                bytes[length] = (byte) (w >> (8 * left));
                length++;
            }
            return true;
        }

        int tokenStart() {
            return start;
        }

        int numberTold() {
            int value = 0;
            for (int i = start; i < end && i < start + MOST_FIGURES; i++) {
                value = 10 * value + bytes[i] - '0';
            }
            return value;
        }

        void rewind() {
            end = 0;
            step();
        }

        /** Looks at the TOKEN behind the one that was looked at. */
        void step() {
            start = end;
            while (start < length && isBlank(bytes[start])) {
                start++;
            }
            end = start;
            sort = start < length ? sortOf(bytes[start]) : END;
            if (sort == SIGN || sort == NO_TOKEN) {
                end++;
            }
            while (end < length && (sort == NAME || sort == NUMBER) && sortOf(bytes[end]) == sort) {
                end++;
            }
            // A run of more figures than a NUMBER has is taken whole, as no TOKEN at all.
            if (sort == NUMBER && end - start > MOST_FIGURES) {
                sort = NO_TOKEN;
            }
        }

        boolean isEnd() {
            return sort == END;
        }

        boolean isNumber() {
            return sort == NUMBER;
        }

        boolean isSign() {
            return sort == SIGN;
        }

        boolean isWord(String word) {
            if (sort != NAME || end - start != word.length()) {
                return false;
            }
            for (int i = 0; i < word.length(); i++) {
                if (bytes[start + i] != word.charAt(i)) {
                    return false;
                }
            }
            return true;
        }

        private static boolean isBlank(byte b) {
            return b == ' ' || b == '\n';
        }

        private static int sortOf(byte b) {
            if (b >= 'a' && b <= 'z') {
                return NAME;
            }
            if (b >= '0' && b <= '9') {
                return NUMBER;
            }
            return b == ';' ? SIGN : NO_TOKEN;
        }
    }

    /** Reads a tape into a bridge of its own, so that a FAULT leaves the one that stands as it is. */
    private static final class Reader {
        private static final int MISPLACED = 1, NOT_AS_TOLD = 2, NO_ROOM = 3;

        private final Bridge told = new Bridge();
        private int faultNumber;

        Bridge result() {
            return told;
        }

        int faultNumber() {
            return faultNumber;
        }

        boolean read(Tape tape) {
            told.clear();
            tape.rewind();
            if (!readTide(tape) || !readArches(tape) || !readBoats(tape)) {
                return false;
            }
            told.stands = true;
            return true;
        }

        private boolean faulty(int number) {
            faultNumber = number;
            return false;
        }

        private boolean readTide(Tape tape) {
            if (!tape.isWord("tide")) {
                return faulty(MISPLACED);
            }
            tape.step();
            for (int hour = 0; hour < HOURS; hour++) {
                if (!readNumber(tape, 0, MOST_TIDE, told.tides, hour)) {
                    return false;
                }
            }
            return readSign(tape);
        }

        private boolean readArches(Tape tape) {
            if (!tape.isWord("arch")) {
                return faulty(MISPLACED);
            }
            for (int n = 0; n <= ARCHES && tape.isWord("arch"); n++) {
                if (told.arches >= ARCHES) {
                    return faulty(NO_ROOM);
                }
                if (!readArch(tape, told.arches)) {
                    return false;
                }
                told.arches++;
            }
            return true;
        }

        private boolean readArch(Tape tape, int arch) {
            tape.step();
            return readNumber(tape, 0, NOBODYS, told.charters, Bridge.charterPlace(UNDER, arch))
                && readNumber(tape, 0, NOBODYS, told.charters, Bridge.charterPlace(OVER, arch))
                && readNumber(tape, 1, 30, told.heights, arch)
                && readNumber(tape, 0, 9, told.tolls, arch)
                && readSign(tape);
        }

        private boolean readBoats(Tape tape) {
            for (int n = 0; n <= BOATS && tape.isWord("boat"); n++) {
                if (told.boats >= BOATS) {
                    return faulty(NO_ROOM);
                }
                if (!readBoat(tape, told.boats)) {
                    return false;
                }
                told.boats++;
            }
            return tape.isEnd() || faulty(MISPLACED);
        }

        private boolean readBoat(Tape tape, int boat) {
            tape.step();
            int sort = sortTold(tape);
            if (sort == 0) {
                return faulty(MISPLACED);
            }
            told.sorts[boat] = sort;
            tape.step();
            if (!readNumber(tape, 0, MOST_MAST, told.masts, boat)) {
                return false;
            }
            for (int trade = 0; trade < TRADES; trade++) {
                if (!readNumber(tape, 0, 9, told.loads, Bridge.loadPlace(boat, trade))) {
                    return false;
                }
            }
            return readSign(tape);
        }

        private int sortTold(Tape tape) {
            if (tape.isWord("barge")) {
                return BARGE;
            }
            if (tape.isWord("cog")) {
                return COG;
            }
            if (tape.isWord("raft")) {
                return RAFT;
            }
            if (tape.isWord("cart")) {
                return CART;
            }
            return tape.isWord("wain") ? WAIN : 0;
        }

        private boolean readNumber(Tape tape, int least, int greatest, int[] into, int place) {
            if (!tape.isNumber()) {
                return faulty(MISPLACED);
            }
            int value = tape.numberTold();
            if (value < least || value > greatest) {
                return faulty(NOT_AS_TOLD);
            }
            into[place] = value;
            tape.step();
            return true;
        }

        private boolean readSign(Tape tape) {
            if (!tape.isSign()) {
                return faulty(MISPLACED);
            }
            tape.step();
            return true;
        }
    }

    /** All that an IMAGE keeps: what was told, and what the acts made of it. */
    private static final class Bridge {
        private boolean stands;
        private int arches;
        private int boats;
        private int hourNow;
        private int tollHad;
        private int shutArches;
        private int goneBoats;
        private final int[] tides = new int[HOURS];
        private final int[] charters = new int[2 * ARCHES];
        private final int[] heights = new int[ARCHES];
        private final int[] tolls = new int[ARCHES];
        private final int[] sorts = new int[BOATS];
        private final int[] masts = new int[BOATS];
        private final int[] loads = new int[BOATS * TRADES];
        /** ARCHES (bits) by which one went, of each side and HOUR: an hour that is undone needs them again. */
        private final int[] wentBy = new int[2 * HOURS];

        static int charterPlace(int side, int arch) {
            return side * ARCHES + arch;
        }

        static int loadPlace(int boat, int trade) {
            return boat * TRADES + trade;
        }

        void clear() {
            stands = false;
            arches = 0;
            boats = 0;
            hourNow = 0;
            tollHad = 0;
            shutArches = 0;
            goneBoats = 0;
            Arrays.fill(wentBy, 0);
        }

        void become(Bridge other) {
            stands = other.stands;
            arches = other.arches;
            boats = other.boats;
            hourNow = other.hourNow;
            tollHad = other.tollHad;
            shutArches = other.shutArches;
            goneBoats = other.goneBoats;
            System.arraycopy(other.tides, 0, tides, 0, tides.length);
            System.arraycopy(other.charters, 0, charters, 0, charters.length);
            System.arraycopy(other.heights, 0, heights, 0, heights.length);
            System.arraycopy(other.tolls, 0, tolls, 0, tolls.length);
            System.arraycopy(other.sorts, 0, sorts, 0, sorts.length);
            System.arraycopy(other.masts, 0, masts, 0, masts.length);
            System.arraycopy(other.loads, 0, loads, 0, loads.length);
            System.arraycopy(other.wentBy, 0, wentBy, 0, wentBy.length);
        }

        boolean isArch(int arch) {
            return arch >= 0 && arch < arches;
        }

        boolean isBoat(int boat) {
            return boat >= 0 && boat < boats;
        }

        boolean isShut(int arch) {
            return bitOf(shutArches, arch) == 1;
        }

        boolean isGone(int boat) {
            return bitOf(goneBoats, boat) == 1;
        }

        int charterOf(int side, int arch) {
            return charters[charterPlace(side, arch)];
        }

        void giveCharter(int side, int arch, int trade) {
            charters[charterPlace(side, arch)] = trade;
        }

        int loadOf(int boat, int trade) {
            return loads[loadPlace(boat, trade)];
        }

        int allOf(int boat) {
            int all = 0;
            for (int trade = 0; trade < TRADES; trade++) {
                all += loadOf(boat, trade);
            }
            return all;
        }

        int weightOf(int boat) {
            int weight = 0;
            for (int trade = 0; trade < TRADES; trade++) {
                weight += loadOf(boat, trade) * WEIGHTS[trade];
            }
            return weight;
        }

        private int tradesOf(int boat) {
            int bits = 0;
            for (int trade = 0; trade < TRADES; trade++) {
                bits = withBit(bits, trade, loadOf(boat, trade) > 0 ? 1 : 0);
            }
            return bits;
        }

        boolean isMixed(int boat) {
            return Integer.bitCount(tradesOf(boat)) > 1;
        }

        /** Of one TRADE alone, all but the greatest load is none, so this is 0 where it is not MIXED. */
        int portersOf(int boat) {
            int greatest = 0;
            for (int trade = 0; trade < TRADES; trade++) {
                greatest = Math.max(greatest, loadOf(boat, trade));
            }
            return allOf(boat) - greatest;
        }

        int tollOf(int boat, int arch) {
            int toll = tolls[arch] * allOf(boat);
            return isMixed(boat) ? 2 * toll : toll;
        }

        int sideOf(int boat) {
            return sorts[boat] >= CART ? OVER : UNDER;
        }

        /** Charters (bits, nobody's is the fifth) that let a BOAT by. */
        int chartersFor(int boat) {
            int trades = tradesOf(boat);
            if (trades == 0) {
                return (1 << (NOBODYS + 1)) - 1;
            }
            return Integer.bitCount(trades) > 1 ? 1 << NOBODYS : 1 << NOBODYS | trades;
        }

        /** Whether a BOAT has room at a tide, whoever's the ARCH is. */
        boolean hasRoom(int boat, int arch, int tide) {
            int room = heights[arch] - tide;
            switch (sorts[boat]) {
                case RAFT: return room >= masts[boat] / 2;
                case CART: return room >= 0;
                case WAIN: return room >= 0 && heights[arch] >= WAIN_HIGH;
                default: return room >= masts[boat];
            }
        }

        boolean letsBy(int boat, int arch, int hour) {
            return !isShut(arch)
                && bitOf(chartersFor(boat), charterOf(sideOf(boat), arch)) == 1
                && hasRoom(boat, arch, tides[hour]);
        }

        int tradesCutOff(int tide, int mast) {
            int open = 0;
            for (int arch = 0; arch < arches; arch++) {
                if (!isShut(arch) && heights[arch] - tide >= mast) {
                    open |= 1 << charterOf(UNDER, arch);
                }
            }
            int all = (1 << TRADES) - 1;
            return bitOf(open, NOBODYS) == 1 ? 0 : all & ~open;
        }

        int wentIn(int side, int arch) {
            return bitOf(wentBy[side * HOURS + hourNow], arch);
        }

        void goBy(int boat, int arch, int toll) {
            goneBoats = withBit(goneBoats, boat, 1);
            markWent(sideOf(boat), arch, 1);
            tollHad += toll;
        }

        void comeBack(int boat, int arch, int toll) {
            goneBoats = withBit(goneBoats, boat, 0);
            markWent(sideOf(boat), arch, 0);
            tollHad -= toll;
        }

        private void markWent(int side, int arch, int is) {
            int place = side * HOURS + hourNow;
            wentBy[place] = withBit(wentBy[place], arch, is);
        }

        int splitOff(int boat, int trade) {
            int added = boats;
            boats++;
            sorts[added] = sorts[boat];
            masts[added] = masts[boat];
            for (int other = 0; other < TRADES; other++) {
                loads[loadPlace(added, other)] = 0;
            }
            loads[loadPlace(added, trade)] = loadOf(boat, trade);
            loads[loadPlace(boat, trade)] = 0;
            return added;
        }

        /** What was split off last is the last BOAT, since acts are undone latest first. */
        void joinLast(int boat, int trade) {
            boats--;
            loads[loadPlace(boat, trade)] = loadOf(boats, trade);
        }
    }

    /** The ACTS that can be undone, in a ring, so that the oldest is forgotten at no cost. */
    private static final class Acts {
        private static final int ROOM = 24;
        private static final int LENT = 0, SHUT = 1, WENT = 2, PARTED = 3, STRUCK = 4;

        private final int[] whats = new int[ROOM];
        private final int[] firsts = new int[ROOM];
        private final int[] seconds = new int[ROOM];
        private final int[] thirds = new int[ROOM];
        private int oldest;
        private int kept;

        int kept() {
            return kept;
        }

        void forget() {
            kept = 0;
        }

        void keep(int what, int first, int second, int third) {
            if (kept == ROOM) {
                oldest = (oldest + 1) % ROOM;
                kept--;
            }
            int place = (oldest + kept) % ROOM;
            whats[place] = what;
            firsts[place] = first;
            seconds[place] = second;
            thirds[place] = third;
            kept++;
        }

        void takeBack(Bridge bridge) {
            if (kept == 0) {
                return;
            }
            kept--;
            int place = (oldest + kept) % ROOM;
            int first = firsts[place];
            int second = seconds[place];
            int third = thirds[place];
            switch (whats[place]) {
                case LENT: bridge.giveCharter(second, first, third); break;
                case SHUT: bridge.shutArches = withBit(bridge.shutArches, first, second); break;
                case WENT: bridge.comeBack(first, second, third); break;
                case PARTED: bridge.joinLast(first, second); break;
                default: bridge.hourNow--; break;
            }
        }
    }

    /**
     * Brings BOATS to places, a place being an ARCH in an HOUR, on one side of the bridge at a time:
     * below and above never stand in each other's way.
     */
    private static final class Foretold {
        /** So many rows have six charters at most: 6 * 5 * 4 * 3 * 2. */
        private static final int MOST_DEALS = 720;

        /** HOURS (bits) in which a BOAT has room at an ARCH, whoever's this is. */
        private final int[] roomy = new int[BOATS * ARCHES];
        private final int[] chartersFor = new int[BOATS];
        private final int[] charters = new int[ARCHES];
        private final int[] firstRow = new int[ARCHES];
        /** HOURS (bits) of each ARCH that are settled for BOATS ahead. */
        private final int[] settled = new int[ARCHES];
        private final int[] taken = new int[ARCHES];
        private final int[] archOf = new int[BOATS];
        /** The HOUR of a BOAT, as its bit; 0: it has no place. */
        private final int[] hourBitOf = new int[BOATS];
        private int arches;
        private int boats;
        private int asked;

        int greatest(Bridge bridge, int a, int b) {
            return greatestOf(bridge, UNDER, a, b) + greatestOf(bridge, OVER, a, b);
        }

        /** 6 times the HOUR and the ARCH of a BOAT in the first of all rows; NONE. */
        int whenGoes(Bridge bridge, int a, int b, int k) {
            int left = greatestOf(bridge, bridge.sideOf(k), a, b);
            int place = NONE;
            for (int boat = 0; boat <= k; boat++) {
                place = settleFirst(boat, left, a, b);
                left -= place == NONE ? 0 : 1;
            }
            return place;
        }

        /** Goes through the rows of charters from the first on, so that the first of the best stays. */
        int dealAnew(Bridge bridge, int a, int b) {
            int above = greatestOf(bridge, OVER, a, b);
            prepare(bridge, UNDER, a, b);
            int bound = countHopeful();
            sortCharters();
            int best = -1;
            boolean isMore = true;
            for (int row = 0; row < MOST_DEALS && isMore && best < bound; row++) {
                int n = placedFrom(0);
                if (n > best) {
                    best = n;
                    System.arraycopy(charters, 0, firstRow, 0, ARCHES);
                }
                isMore = dealNext();
            }
            return above + best;
        }

        int dealtTo(int arch) {
            return firstRow[arch];
        }

        private int greatestOf(Bridge bridge, int side, int a, int b) {
            prepare(bridge, side, a, b);
            return placedFrom(0);
        }

        private void prepare(Bridge bridge, int side, int a, int b) {
            arches = bridge.arches;
            boats = bridge.boats;
            for (int arch = 0; arch < arches; arch++) {
                charters[arch] = bridge.charterOf(side, arch);
                settled[arch] = 0;
            }
            for (int boat = 0; boat < boats; boat++) {
                chartersFor[boat] = bridge.chartersFor(boat);
                boolean isOut = bridge.isGone(boat) || bridge.sideOf(boat) != side;
                for (int arch = 0; arch < arches; arch++) {
                    boolean isClosed = isOut || bridge.isShut(arch);
                    roomy[boat * ARCHES + arch] = isClosed ? 0 : roomyHours(bridge, boat, arch, a, b);
                }
            }
        }

        private static int roomyHours(Bridge bridge, int boat, int arch, int a, int b) {
            int bits = 0;
            for (int hour = a; hour <= b; hour++) {
                bits = withBit(bits, hour, bridge.hasRoom(boat, arch, bridge.tides[hour]) ? 1 : 0);
            }
            return bits;
        }

        private int openHours(int boat, int arch) {
            return bitOf(chartersFor[boat], charters[arch]) == 1 ? roomy[boat * ARCHES + arch] : 0;
        }

        /** How many BOATS from one on can have places beside those that are settled. */
        private int placedFrom(int first) {
            System.arraycopy(settled, 0, taken, 0, ARCHES);
            Arrays.fill(hourBitOf, 0);
            int n = 0;
            for (int boat = first; boat < boats; boat++) {
                asked = 1 << boat;
                n += findPlace(boat, 0) ? 1 : 0;
            }
            return n;
        }

        /** Finds a free place, or one whose BOAT finds another; each BOAT is asked but once. */
        private boolean findPlace(int boat, int depth) {
            if (depth > BOATS) {
                return false;
            }
            for (int arch = 0; arch < arches; arch++) {
                int free = openHours(boat, arch) & ~taken[arch];
                if (free != 0) {
                    int bit = free & -free;
                    taken[arch] |= bit;
                    givePlace(boat, arch, bit);
                    return true;
                }
            }
            for (int other = 0; other < boats; other++) {
                int arch = archOf[other];
                int bit = hourBitOf[other];
                if (bitOf(asked, other) == 1 || (openHours(boat, arch) & bit) == 0) {
                    continue;
                }
                asked |= 1 << other;
                if (findPlace(other, depth + 1)) {
                    givePlace(boat, arch, bit);
                    return true;
                }
            }
            return false;
        }

        private void givePlace(int boat, int arch, int hourBit) {
            archOf[boat] = arch;
            hourBitOf[boat] = hourBit;
        }

        /** The first place with which as many BOATS as are left still go by. */
        private int settleFirst(int boat, int left, int a, int b) {
            for (int hour = a; hour <= b; hour++) {
                for (int arch = 0; arch < arches; arch++) {
                    int bit = 1 << hour;
                    if ((openHours(boat, arch) & ~settled[arch] & bit) == 0) {
                        continue;
                    }
                    settled[arch] |= bit;
                    if (placedFrom(boat + 1) == left - 1) {
                        return 6 * hour + arch;
                    }
                    settled[arch] &= ~bit;
                }
            }
            return NONE;
        }

        /** No row of charters can bring by more BOATS than have room and a charter somewhere. */
        private int countHopeful() {
            int there = 0;
            for (int arch = 0; arch < arches; arch++) {
                there |= 1 << charters[arch];
            }
            int n = 0;
            for (int boat = 0; boat < boats; boat++) {
                int room = 0;
                for (int arch = 0; arch < arches; arch++) {
                    room |= roomy[boat * ARCHES + arch];
                }
                n += room != 0 && (chartersFor[boat] & there) != 0 ? 1 : 0;
            }
            return n;
        }

        private void sortCharters() {
            for (int end = 1; end < arches; end++) {
                for (int i = end; i > 0 && charters[i - 1] > charters[i]; i--) {
                    swapCharters(i - 1, i);
                }
            }
        }

        /** Makes the next row of the same charters; false behind the last. */
        private boolean dealNext() {
            int turn = arches - 2;
            while (turn >= 0 && charters[turn] >= charters[turn + 1]) {
                turn--;
            }
            if (turn < 0) {
                return false;
            }
            int next = arches - 1;
            while (next > turn && charters[next] <= charters[turn]) {
                next--;
            }
            swapCharters(turn, next);
            for (int low = turn + 1, high = arches - 1; low < high; low++, high--) {
                swapCharters(low, high);
            }
            return true;
        }

        private void swapCharters(int i, int j) {
            int kept = charters[i];
            charters[i] = charters[j];
            charters[j] = kept;
        }
    }

    /** The BODIES, each of which leaves its number in THE TRACE as it begins. */
    private static final class Asks {
        private static final int SIZE = 0, MARK = 1, TRACED = 16, MOST_DEEP = 12;
        /** The BODY that begins, by KIND: told for it, or for the nearest KIND that it is, too, or lent. */
        private static final int[] SIZE_BODIES = {10, 11, 11, 12, 13, 14};
        private static final int[] MARK_BODIES = {20, 21, 22, 24, 23, 23};

        private final int[] begun = new int[TRACED];
        private int traced;

        int answer(Bridge bridge, int boat, int what) {
            traced = 0;
            return gives(bodyFor(what, bridge.sorts[boat]), bridge, boat, 0);
        }

        int traceAt(int i) {
            return i >= 0 && i < traced ? begun[i] : NONE;
        }

        private static int bodyFor(int what, int sort) {
            return what == SIZE ? SIZE_BODIES[sort] : MARK_BODIES[sort];
        }

        private int gives(int body, Bridge bridge, int boat, int depth) {
            if (depth > MOST_DEEP) {
                return 0;
            }
            leaveTrace(body);
            int deeper = depth + 1;
            int sort = bridge.sorts[boat];
            switch (body) {
                case 10: return bridge.allOf(boat);
                case 11: return gives(10, bridge, boat, deeper) + gives(bodyFor(MARK, sort), bridge, boat, deeper);
                case 12: return 0 - gives(11, bridge, boat, deeper);
                case 13: return gives(10, bridge, boat, deeper) - 100;
                case 14: return 2 * gives(13, bridge, boat, deeper);
                case 20: return boat;
                case 21: return gives(20, bridge, boat, deeper) + bridge.masts[boat];
                case 22: return gives(21, bridge, boat, deeper) - 1000;
                case 23: return gives(20, bridge, boat, deeper) - gives(bodyFor(SIZE, sort), bridge, boat, deeper);
                case 24: return 2 * gives(21, bridge, boat, deeper);
                default: return 0;
            }
        }

        private void leaveTrace(int body) {
            if (traced < TRACED) {
                begun[traced] = body;
                traced++;
            }
        }
    }
}
