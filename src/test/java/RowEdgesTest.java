/** The boundary cases of the ROWS: promises 1 to 5, and what the terms say of ROWS. */
public final class RowEdgesTest {
    private static final int BAD = -1000001;
    private static final int NULL = -1000011, PLACE = -1000012, SIZE = -1000014, STORE = -1000015;
    private static final int LEAST = Integer.MIN_VALUE, GREATEST = Integer.MAX_VALUE;
    private static final int BYTES = 0, SHORTS = 1, INTS = 2;
    private static final Sentences T = new Sentences("RowEdgesTest");

    private RowEdgesTest() {
    }

    public static void main(String[] args) {
        missingAtFirst();
        itemsAtFirst();
        sizes();
        lanes();
        inPlace();
        setBits();
        setRefusals();
        copyAhead();
        copyWhole();
        copyNarrow();
        copyRefusals();
        copyPlaces();
        drops();
        findings();
        T.end();
    }

    /** One BOAT with a load of TRADE 1 alone: weighing it shows whether an ITEM is 1. */
    private static ArchTrades scales() {
        return Texts.with(Texts.STILL + "arch 4 4 9 0;boat cog 0 0 1 0 0;");
    }

    /** 1, 0 (another TRADE) or x (no TRADE), of each ITEM. */
    private static String seen(ArchTrades x, int row, int n) {
        StringBuilder s = new StringBuilder();
        for (int i = 0; i < n; i++) {
            int answer = x.weighed(row, i);
            s.append(answer == 0 ? '1' : answer == 1 ? '0' : answer == BAD ? 'x' : '?');
        }
        return s.toString();
    }

    private static void put(ArchTrades x, int row, String items) {
        for (int i = 0; i < items.length(); i++) {
            char c = items.charAt(i);
            x.set(row, i, c == 'x' ? 9 : c - '0');
        }
    }

    private static ArchTrades with(int row, int lane, String items) {
        ArchTrades x = scales();
        x.row(row, lane, items.length());
        put(x, row, items);
        return x;
    }

    private static void missingAtFirst() {
        ArchTrades x = new ArchTrades();
        T.says("ROWS 0 .. 7 are missing (at first)");
        T.due("count(0)", x.count(0), 0);
        for (int row = 0; row < 8; row++) {
            T.due("set(" + row + ", 0, 0)", x.set(row, 0, 0), NULL);
            T.due("drop(" + row + ")", x.drop(row), NULL);
            T.due("copy of " + row, x.copy(row, 0, row, 0, 0), NULL);
        }
        ArchTrades y = scales();
        for (int row = 0; row < 8; row++) {
            T.due("weighed(" + row + ", 0)", y.weighed(row, 0), NULL);
        }
    }

    private static void itemsAtFirst() {
        T.says("0 to 40 ITEMS, 0 at first");
        ArchTrades x = scales();
        for (int lane = BYTES; lane <= INTS; lane++) {
            x.row(lane, lane, 40);
            T.same("LANE " + lane, seen(x, lane, 40), "0".repeat(40));
        }
        ArchTrades y = scales();
        y.row(3, BYTES, 40);
        put(y, 3, "1".repeat(40));
        T.same("filled", seen(y, 3, 40), "1".repeat(40));
        y.row(3, BYTES, 2);
        y.row(3, BYTES, 40);
        T.same("told anew", seen(y, 3, 40), "0".repeat(40));
        put(y, 3, "1".repeat(40));
        y.drop(3);
        y.row(3, INTS, 40);
        T.same("behind a drop", seen(y, 3, 40), "0".repeat(40));
    }

    private static void sizes() {
        T.says("0 to 40 ITEMS");
        for (int row = 0; row < 8; row++) {
            ArchTrades x = new ArchTrades();
            for (int n : new int[] {0, 1, 39, 40}) {
                T.due("row(" + row + ", 0, " + n + ")", x.row(row, BYTES, n), n);
                T.due("behind the last of " + n, x.set(row, n, 5), PLACE);
                T.due("the last of " + n, x.set(row, n - 1, 5), n == 0 ? PLACE : 5);
            }
            T.due("drop", x.drop(row), 40);
        }
        T.says(2, "n above 40");
        ArchTrades x = new ArchTrades();
        T.due("40", x.row(0, BYTES, 40), 40);
        T.due("41", x.row(0, BYTES, 41), BAD);
        T.due("42", x.row(0, INTS, 42), BAD);
        T.due("greatest", x.row(0, BYTES, GREATEST), BAD);
        T.due("the ROW stays", x.drop(0), 40);
        T.says(2, "SIZE");
        T.due("-1", x.row(0, BYTES, -1), SIZE);
        T.due("status", x.status(), 4);
        T.due("least", x.row(0, INTS, LEAST), SIZE);
        T.due("0 is none, not fewer", x.row(0, BYTES, 0), 0);
        T.due("status", x.status(), 0);
        T.due("-1 on a ROW that is there", x.row(0, INTS, -1), SIZE);
        T.due("the ROW stays", x.drop(0), 0);
    }

    private static void lanes() {
        T.says(2, "BAD: ROW, LANE");
        ArchTrades x = new ArchTrades();
        for (int row : new int[] {LEAST, -1, 8, 9, GREATEST}) {
            T.due("row " + row, x.row(row, BYTES, 1), BAD);
            T.due("row " + row + ", fewer than none", x.row(row, BYTES, -1), BAD);
        }
        for (int lane : new int[] {LEAST, -1, 3, 4, GREATEST}) {
            T.due("lane " + lane, x.row(0, lane, 1), BAD);
            T.due("lane " + lane + ", fewer than none", x.row(0, lane, -1), BAD);
        }
        T.due("no ROW came", x.count(0), 0);
        T.due("status stays", x.status(), 0);
        for (int lane = BYTES; lane <= INTS; lane++) {
            T.due("lane " + lane, x.row(7, lane, 1), 1);
        }
        T.due("one ROW came", x.count(0), 1);
    }

    private static void inPlace() {
        T.says(2, "in place of what is there: n");
        ArchTrades x = with(4, BYTES, "1111");
        x.row(5, INTS, 9);
        T.due("fewer ITEMS, another LANE", x.row(4, INTS, 3), 3);
        T.due("beyond the new end", x.set(4, 3, 1), PLACE);
        T.due("of the new LANE", x.copy(4, 0, 5, 0, 3), 3);
        T.due("not of the old LANE", x.set(4, 2, 300), 300);
        T.due("more ITEMS", x.row(4, BYTES, 6), 6);
        T.due("the new end", x.set(4, 5, 300), 44);
        T.due("as many ROWS", x.count(0), 2);
        T.due("the next ROW stays", x.drop(5), 9);
    }

    private static void setBits() {
        T.says(3, "ITEM i becomes v, its lowest bits, as many as the LANE has: what it is then");
        ArchTrades x = new ArchTrades();
        for (int lane = BYTES; lane <= INTS; lane++) {
            x.row(lane, lane, 40);
        }
        int[] edges = {0, 1, -1, 127, 128, 129, 255, 256, 257, -127, -128, -129, -255, -256, -257, 32767, 32768, 32769, 65535, 65536, 65537,
            -32767, -32768, -32769, -65535, -65536, -65537, GREATEST - 1, GREATEST, LEAST, LEAST + 1, 0x12348000, 0x1234807f, 0x123480ff};
        for (int v : edges) {
            T.due("byte " + v, x.set(BYTES, 39, v), (byte) v);
            T.due("short " + v, x.set(SHORTS, 39, v), (short) v);
            T.due("int " + v, x.set(INTS, 39, v), v);
        }
        T.due("the highest bit of a byte", x.set(BYTES, 0, 128), -128);
        T.due("the highest bit of a short", x.set(SHORTS, 0, 32768), -32768);
        ArchTrades y = with(0, BYTES, "000");
        y.set(0, 1, 257);
        T.same("what it is from then on", seen(y, 0, 3), "010");
    }

    private static void setRefusals() {
        T.says(3, "BAD: ROW; NULL; PLACE");
        ArchTrades x = with(6, SHORTS, "10x");
        for (int row : new int[] {LEAST, -1, 8, GREATEST}) {
            T.due("ROW " + row, x.set(row, 0, 1), BAD);
            T.due("ROW " + row + ", no place", x.set(row, -1, 1), BAD);
        }
        T.due("missing", x.set(7, 0, 1), NULL);
        T.due("missing, no place", x.set(7, -1, 1), NULL);
        for (int i : new int[] {LEAST, -1, 3, 4, 40, GREATEST}) {
            T.due("place " + i, x.set(6, i, 1), PLACE);
        }
        T.same("all stay", seen(x, 6, 3), "10x");
        T.due("the first place", x.set(6, 0, 0), 0);
        T.due("the last place", x.set(6, 2, 1), 1);
        T.same("as set", seen(x, 6, 3), "001");
    }

    private static void copyAhead() {
        T.says(4, "as they were ahead: n");
        ArchTrades x = with(0, INTS, "10x011");
        T.due("one behind", x.copy(0, 0, 0, 1, 5), 5);
        T.same("one behind", seen(x, 0, 6), "110x01");
        ArchTrades y = with(0, INTS, "10x011");
        T.due("one ahead", y.copy(0, 1, 0, 0, 5), 5);
        T.same("one ahead", seen(y, 0, 6), "0x0111");
        ArchTrades z = with(0, INTS, "10x011");
        T.due("onto itself", z.copy(0, 0, 0, 0, 6), 6);
        T.same("onto itself", seen(z, 0, 6), "10x011");
        T.due("two behind", z.copy(0, 1, 0, 3, 3), 3);
        T.same("two behind", seen(z, 0, 6), "10x0x0");
    }

    private static void copyWhole() {
        T.says(4, "n ITEMS of a from i on come to b from j on");
        String all = "1x0".repeat(13) + "1";
        ArchTrades x = with(0, BYTES, all);
        x.row(7, BYTES, 40);
        T.due("all 40", x.copy(0, 0, 7, 0, 40), 40);
        T.same("all 40", seen(x, 7, 40), all);
        T.due("none", x.copy(0, 0, 7, 0, 0), 0);
        T.due("none, at both ends", x.copy(0, 40, 7, 40, 0), 0);
        T.same("none came", seen(x, 7, 40), all);
        x.row(1, BYTES, 3);
        T.due("the last ITEMS", x.copy(0, 38, 1, 1, 2), 2);
        T.same("the last ITEMS", seen(x, 1, 3), "001");
        T.due("into the last place", x.copy(0, 1, 1, 2, 1), 1);
        T.same("into the last place", seen(x, 1, 3), "00x");
        T.due("of no ITEMS", x.row(2, BYTES, 0), 0);
        T.due("none of none", x.copy(2, 0, 2, 0, 0), 0);
    }

    private static void copyNarrow() {
        T.says(4, "n ITEMS of a from i on come to b from j on");
        ArchTrades x = with(3, SHORTS, "111");
        x.row(4, SHORTS, 3);
        T.due("one in the middle", x.copy(3, 1, 4, 1, 1), 1);
        T.same("beside it all stays", seen(x, 4, 3), "010");
        T.same("a stays", seen(x, 3, 3), "111");
    }

    private static void copyRefusals() {
        T.says(4, "BAD: ROWS; NULL; STORE; PLACE");
        ArchTrades x = with(0, BYTES, "101");
        x.row(1, SHORTS, 3);
        x.row(2, INTS, 3);
        for (int row : new int[] {LEAST, -1, 8, GREATEST}) {
            T.due("a " + row, x.copy(row, 0, 0, 0, 1), BAD);
            T.due("b " + row, x.copy(0, 0, row, 0, 1), BAD);
            T.due("b " + row + ", a missing", x.copy(7, 0, row, 0, 1), BAD);
            T.due("a " + row + ", b missing", x.copy(row, 0, 7, 0, 1), BAD);
        }
        T.due("a missing", x.copy(7, 0, 0, 0, 1), NULL);
        T.due("b missing", x.copy(0, 0, 7, 0, 1), NULL);
        T.due("both missing", x.copy(6, 0, 7, 0, 1), NULL);
        T.due("missing, no place", x.copy(0, -1, 7, -1, -1), NULL);
        for (int a = BYTES; a <= INTS; a++) {
            for (int b = BYTES; b <= INTS; b++) {
                T.due("LANES " + a + ", " + b, x.copy(a, 0, b, 0, 0), a == b ? 0 : STORE);
                T.due("LANES " + a + ", " + b + ", no place", x.copy(a, 4, b, -1, 9), a == b ? PLACE : STORE);
            }
        }
        T.same("all stay", seen(x, 0, 3), "101");
    }

    private static void copyPlaces() {
        T.says(4, "PLACE (i, j, n below 0, or beyond an end)");
        ArchTrades x = with(0, BYTES, "101");
        x.row(1, BYTES, 2);
        T.due("i -1", x.copy(0, -1, 1, 0, 1), PLACE);
        T.due("i -1, none", x.copy(0, -1, 1, 0, 0), PLACE);
        T.due("j -1", x.copy(0, 0, 1, -1, 1), PLACE);
        T.due("j -1, none", x.copy(0, 0, 1, -1, 0), PLACE);
        T.due("n -1", x.copy(0, 1, 1, 1, -1), PLACE);
        T.due("n least", x.copy(0, 0, 1, 0, LEAST), PLACE);
        T.due("i least, n greatest", x.copy(0, LEAST, 1, 0, GREATEST), PLACE);
        T.due("beyond a", x.copy(0, 2, 1, 0, 2), PLACE);
        T.due("up to a's end", x.copy(0, 2, 1, 0, 1), 1);
        T.due("beyond b", x.copy(0, 0, 1, 1, 2), PLACE);
        T.due("up to b's end", x.copy(0, 0, 1, 1, 1), 1);
        T.due("beyond b, not a", x.copy(0, 0, 1, 0, 3), PLACE);
        T.due("none at a's end", x.copy(0, 3, 1, 0, 0), 0);
        T.due("none behind a's end", x.copy(0, 4, 1, 0, 0), PLACE);
        T.due("none at b's end", x.copy(0, 0, 1, 2, 0), 0);
        T.due("none behind b's end", x.copy(0, 0, 1, 3, 0), PLACE);
        for (int far : new int[] {GREATEST, GREATEST - 1, GREATEST - 2}) {
            T.due("i wraps, " + far, x.copy(0, far, 1, 0, 2), PLACE);
            T.due("j wraps, " + far, x.copy(0, 0, 1, far, 2), PLACE);
            T.due("n wraps, " + far, x.copy(0, 3, 1, 2, far), PLACE);
            T.due("all wrap, " + far, x.copy(0, far, 1, far, far), PLACE);
        }
        T.same("what came before is there yet", seen(x, 1, 2), "11");
        T.same("a stays", seen(x, 0, 3), "101");
    }

    private static void drops() {
        T.says(5, "A ROW is missing from now on: how many ITEMS it had");
        ArchTrades x = new ArchTrades();
        for (int row = 0; row < 8; row++) {
            x.row(row, INTS, 5 * row);
        }
        T.due("eight", x.count(0), 8);
        for (int row = 0; row < 8; row++) {
            T.due("drop(" + row + ")", x.drop(row), 5 * row);
            T.due("fewer", x.count(0), 7 - row);
            T.due("missing", x.set(row, 0, 1), NULL);
        }
        x.row(0, INTS, 40);
        T.due("40", x.drop(0), 40);
        T.says(5, "BAD; NULL");
        for (int row : new int[] {LEAST, -1, 8, GREATEST}) {
            T.due("drop(" + row + ")", x.drop(row), BAD);
        }
        T.due("missing", x.drop(0), NULL);
        T.due("missing again", x.drop(0), NULL);
        T.due("none", x.count(0), 0);
    }

    private static void findings() {
        T.says("-1000010 less 1 NULL (a ROW that is missing), 2 PLACE (no such place of a ROW)");
        ArchTrades x = scales();
        T.due("NULL", x.drop(0), -1000010 - 1);
        T.due("NULL", x.status(), 1);
        x.row(0, BYTES, 0);
        T.due("PLACE", x.set(0, 0, 0), -1000010 - 2);
        T.due("PLACE", x.status(), 2);
        T.says("3 KIND (a BOAT that is not that), 4 SIZE (fewer than none), 5 STORE (ROWS of two LANES)");
        T.due("KIND", x.as(0, 5), -1000010 - 3);
        T.due("KIND", x.status(), 3);
        T.due("SIZE", x.row(0, BYTES, -1), -1000010 - 4);
        T.due("SIZE", x.status(), 4);
        x.row(1, SHORTS, 0);
        T.due("STORE", x.copy(0, 0, 1, 0, 0), -1000010 - 5);
        T.due("STORE", x.status(), 5);
    }
}
