/** The boundary cases of what is foretold: promises 17 to 23, and what the terms say of it. */
public final class ForetoldEdgesTest {
    private static final int NONE = -1000000, BAD = -1000001, STATE = -1000002;
    private static final int NULL = -1000011, PLACE = -1000012;
    private static final int LEAST = Integer.MIN_VALUE, GREATEST = Integer.MAX_VALUE;
    private static final Sentences T = new Sentences("ForetoldEdgesTest");

    private ForetoldEdgesTest() {
    }

    public static void main(String[] args) {
        charters();
        shut();
        underHigh();
        raftHalf();
        overHigh();
        wainHigh();
        mayWrong();
        mayGone();
        mostEnds();
        mostWrong();
        mostFirstRow();
        mostNotGone();
        mostCrowd();
        anewRows();
        anewEachRow();
        anewShut();
        anewWrong();
        cutEnds();
        cutWho();
        weighs();
        weighedEnds();
        weighedWrong();
        weighedItems();
        images();
        restores();
        T.end();
    }

    private static ArchTrades with(String rest) {
        return Texts.with(Texts.STILL + rest);
    }

    private static String loads(int bits) {
        return " " + (bits & 1) + " " + (bits >> 1 & 1) + " " + (bits >> 2 & 1) + " " + (bits >> 3 & 1) + ";";
    }

    private static void charters() {
        T.says("its charter UNDER lets by all TRADES that it has (nobody's: all; an EMPTY one any)");
        String arches = "arch 0 1 20 1;arch 1 2 20 1;arch 2 3 20 1;arch 3 4 20 1;arch 4 0 20 1;";
        for (int bits = 0; bits < 16; bits++) {
            int own = bits == 0 ? 31 : Integer.bitCount(bits) == 1 ? 16 | bits : 16;
            for (String sort : new String[] {"barge", "cog", "raft"}) {
                T.due(sort + " of TRADES " + bits, with(arches + "boat " + sort + " 5" + loads(bits)).may(0, 0), own);
            }
        }
        T.says("its charter OVER lets by all that it has");
        for (int bits = 0; bits < 16; bits++) {
            int rolled = (bits >> 1 | bits << 4) & 31;
            int own = bits == 0 ? 31 : Integer.bitCount(bits) == 1 ? 8 | rolled : 8;
            for (String sort : new String[] {"cart", "wain"}) {
                T.due(sort + " of TRADES " + bits, with(arches + "boat " + sort + " 5" + loads(bits)).may(0, 0), own);
            }
        }
    }

    private static void shut() {
        String six = "arch 4 4 30 1;".repeat(6);
        T.says("A barge, a cog, a raft goes UNDER an ARCH in an HOUR, if this is not SHUT");
        for (String sort : new String[] {"barge", "cog", "raft"}) {
            shutOneByOne(with(six + "boat " + sort + " 0 0 0 0 0;"));
        }
        T.says("A cart, a wain goes OVER, if the ARCH is not SHUT");
        for (String sort : new String[] {"cart", "wain"}) {
            shutOneByOne(with(six + "boat " + sort + " 0 0 0 0 0;"));
        }
        T.says("MAY of a BOAT in an HOUR: ARCHES (bits)");
        T.due("all six", with(six + "boat cog 0 0 0 0 0;").may(0, 11), 63);
        T.due("the last alone", with("arch 0 4 30 1;".repeat(5) + "arch 1 4 30 1;boat cog 0 0 1 0 0;").may(0, 11), 32);
        T.due("none", with("arch 0 4 30 1;".repeat(6) + "boat cog 0 0 1 0 0;").may(0, 11), 0);
    }

    private static void shutOneByOne(ArchTrades x) {
        int open = 63;
        for (int arch = 0; arch < 6; arch++) {
            x.shut(arch, 1);
            open &= ~(1 << arch);
            T.due("SHUT up to " + arch, x.may(0, 0), open);
        }
        x.shut(3, 0);
        T.due("open again", x.may(0, 0), 8);
    }

    /** The answer of one BOAT at one ARCH with one tide in HOUR 0. */
    private static int goes(String sort, int mast, int high, int tide) {
        return Texts.with("tide " + tide + " 0 0 0 0 0 0 0 0 0 0 0;arch 4 4 " + high + " 1;boat " + sort + " " + mast + " 1 0 0 0;").may(0, 0);
    }

    private static void underHigh() {
        T.says("HIGH less the tide of the HOUR is no less than its MAST");
        for (String sort : new String[] {"barge", "cog"}) {
            T.due("just", goes(sort, 5, 15, 10), 1);
            T.due("not", goes(sort, 6, 15, 10), 0);
            T.due("more", goes(sort, 4, 15, 10), 1);
            T.due("no MAST, no room", goes(sort, 0, 10, 10), 1);
            T.due("no MAST, below the tide", goes(sort, 0, 9, 10), 0);
            T.due("no MAST, far below", goes(sort, 0, 1, 20), 0);
            T.due("greatest, just", goes(sort, 20, 30, 10), 1);
            T.due("greatest, not", goes(sort, 20, 30, 11), 0);
            T.due("no tide", goes(sort, 20, 20, 0), 1);
            T.due("no tide, not", goes(sort, 20, 19, 0), 0);
        }
    }

    private static void raftHalf() {
        T.says("a raft needs half its MAST, cut");
        for (int mast = 0; mast <= 20; mast++) {
            int half = mast / 2;
            T.due("just, MAST " + mast, goes("raft", mast, half + 5, 5), 1);
            T.due("not, MAST " + mast, goes("raft", mast, half + 4, 5), 0);
        }
        T.says("All that is divided is cut towards 0");
        T.due("half of 1 is none", goes("raft", 1, 5, 5), 1);
        T.due("half of 19 is 9", goes("raft", 19, 14, 5), 1);
        T.due("half of 19 is not 8", goes("raft", 19, 13, 5), 0);
    }

    private static void overHigh() {
        T.says("the tide is no more than HIGH");
        for (int mast : new int[] {0, 1, 20}) {
            T.due("just", goes("cart", mast, 10, 10), 1);
            T.due("not", goes("cart", mast, 9, 10), 0);
            T.due("far more", goes("cart", mast, 30, 10), 1);
            T.due("greatest tide", goes("cart", mast, 20, 20), 1);
            T.due("greatest tide, not", goes("cart", mast, 19, 20), 0);
            T.due("lowest ARCH", goes("cart", mast, 1, 1), 1);
            T.due("lowest ARCH, not", goes("cart", mast, 1, 2), 0);
        }
    }

    private static void wainHigh() {
        T.says("a wain only over ARCHES of HIGH 10 and more");
        T.due("HIGH 10", goes("wain", 0, 10, 0), 1);
        T.due("HIGH 9", goes("wain", 0, 9, 0), 0);
        T.due("HIGH 9, a cart", goes("cart", 0, 9, 0), 1);
        T.due("HIGH 11", goes("wain", 20, 11, 0), 1);
        T.due("HIGH 10, tide 10", goes("wain", 0, 10, 10), 1);
        T.due("HIGH 10, tide 11", goes("wain", 0, 10, 11), 0);
        T.due("HIGH 1, tide 0", goes("wain", 0, 1, 0), 0);
    }

    private static void mayWrong() {
        T.says(17, "BAD: HOURS 0 to 11");
        ArchTrades x = Texts.with("tide 0 20 20 20 20 20 20 20 20 20 20 0;arch 4 4 9 1;boat cog 9 0 0 0 0;");
        T.due("HOUR 0", x.may(0, 0), 1);
        T.due("HOUR 1", x.may(0, 1), 0);
        T.due("HOUR 10", x.may(0, 10), 0);
        T.due("HOUR 11", x.may(0, 11), 1);
        for (int wild : new int[] {LEAST, -1, 12, 13, GREATEST}) {
            T.due("HOUR " + wild, x.may(0, wild), BAD);
        }
        for (int wild : new int[] {LEAST, -1, 1, 6, GREATEST}) {
            T.due("BOAT " + wild, x.may(wild, 0), BAD);
        }
    }

    private static void mayGone() {
        T.says(17, "MAY (of one GONE, too)");
        ArchTrades x = with("arch 0 4 9 1;arch 1 4 9 1;arch 4 4 9 1;boat cog 9 1 0 0 0;boat cart 0 1 0 0 0;");
        T.due("not GONE", x.may(0, 3), 5);
        x.pass(0, 0);
        x.pass(1, 0);
        T.due("GONE, by one that is taken", x.may(0, 0), 5);
        T.due("GONE, above", x.may(1, 0), 7);
        x.hour();
        T.due("in an HOUR that was", x.may(0, 0), 5);
        T.due("in the last", x.may(0, 11), 5);
        x.shut(2, 1);
        T.due("SHUT", x.may(0, 3), 1);
        x.lend(1, 0, 0);
        T.due("LENT", x.may(0, 3), 3);
    }

    private static void mostEnds() {
        T.says(18, "MOST in HOURS a to b (a no more than b): how many (k = -1), 6 times the HOUR and the ARCH of BOAT k; NONE");
        ArchTrades x = Texts.with("tide 0 20 20 20 20 20 20 20 20 20 20 0;arch 0 4 5 1;arch 4 4 9 1;boat cog 9 1 0 0 0;boat cog 6 1 0 0 0;"
            + "boat cog 8 0 0 0 0;");
        T.due("HOUR 0 alone", x.most(0, 0, -1), 1);
        T.due("HOUR 11 alone", x.most(11, 11, -1), 1);
        T.due("in the first place of HOUR 11", x.most(11, 11, 0), 6 * 11 + 1);
        T.due("not at all", x.most(11, 11, 1), NONE);
        T.due("all HOURS", x.most(0, 11, -1), 2);
        T.due("in HOUR 0", x.most(0, 11, 0), 1);
        T.due("in HOUR 11", x.most(0, 11, 1), 67);
        T.due("not at all", x.most(0, 11, 2), NONE);
        T.due("none in between", x.most(1, 10, -1), 0);
        T.due("none in between", x.most(1, 10, 0), NONE);
        T.due("up to HOUR 10", x.most(0, 10, -1), 1);
        T.due("from HOUR 1 on", x.most(1, 11, 0), 67);
        ArchTrades y = with("arch 0 4 5 1;");
        T.due("no BOATS", y.most(0, 11, -1), 0);
        T.due("no BOAT 0", y.most(0, 11, 0), BAD);
        ArchTrades z = with("arch 0 4 1 1;".repeat(5) + "arch 1 4 1 1;boat cog 0 0 1 0 0;");
        T.due("the last ARCH in the last HOUR", z.most(11, 11, 0), 71);
        T.due("the first place of all", with("arch 0 4 1 1;boat cog 0 0 0 0 0;").most(0, 11, 0), 0);
    }

    private static void mostWrong() {
        T.says(18, "BAD; STATE: no BRIDGE (ahead of BAD)");
        ArchTrades x = with("arch 4 4 9 1;boat cog 9 1 0 0 0;boat cog 9 1 0 0 0;");
        ArchTrades none = new ArchTrades();
        for (int wild : new int[] {LEAST, -1, 12, GREATEST}) {
            T.due("a " + wild, x.most(wild, 11, -1), BAD);
            T.due("b " + wild, x.most(0, wild, -1), BAD);
            T.due("a, b " + wild, x.most(wild, wild, -1), BAD);
            T.due("no BRIDGE, a " + wild, none.most(wild, 11, -1), STATE);
            T.due("no BRIDGE, b " + wild, none.most(0, wild, -1), STATE);
            T.due("no BRIDGE, k " + wild, none.most(0, 0, wild), STATE);
        }
        for (int a = 0; a < 12; a++) {
            T.due("a is b", x.most(a, a, -1), 1);
            T.due("a above b", x.most(a, a - 1, -1), BAD);
        }
        for (int wild : new int[] {LEAST, -2, 2, 6, GREATEST}) {
            T.due("k " + wild, x.most(0, 11, wild), BAD);
        }
        T.due("k the last", x.most(0, 11, 1), 6);
        T.due("no BRIDGE", none.most(0, 0, -1), STATE);
    }

    private static void mostFirstRow() {
        T.says("the first row (BOAT by BOAT the least of 6 times the HOUR, and the ARCH; not at all is last)");
        ArchTrades x = with("arch 0 4 9 1;boat cog 9 1 0 0 0;boat cog 9 1 0 0 0;boat cog 9 1 0 0 0;");
        T.due("an earlier BOAT goes", x.most(3, 3, 0), 18);
        T.due("a later one does not", x.most(3, 3, 1) == NONE && x.most(3, 3, 2) == NONE ? 1 : 0, 1);
        T.due("the earlier HOUR to the earlier BOAT", x.most(3, 5, 0) * 10000 + x.most(3, 5, 1) * 100 + x.most(3, 5, 2), 182430);
        ArchTrades y = Texts.with("tide 0 20 0 0 0 0 0 0 0 0 0 0;arch 0 4 9 1;arch 4 4 20 1;boat cog 0 1 0 0 0;boat cog 0 1 0 0 0;");
        T.due("the HOUR ahead of the ARCH", y.most(0, 1, 0) * 10 + y.most(0, 1, 1), 1);
        T.due("in a flood by the higher ARCH", y.most(1, 1, 0), 7);
        // So many go only if the first BOAT leaves the first place to the second, which has no other.
        ArchTrades z = with("arch 4 4 9 1;arch 0 4 5 1;boat cog 5 1 0 0 0;boat cog 9 0 1 0 0;");
        T.due("how many is ahead of the row", z.most(0, 0, 0) * 10 + z.most(0, 0, 1), 10);
        T.due("not in two HOURS", z.most(0, 1, 0) * 10 + z.most(0, 1, 1), 6);
        ArchTrades w = with("arch 4 4 9 1;boat cog 9 1 0 0 0;boat cart 9 1 0 0 0;");
        T.due("below and above in one place", w.most(0, 0, 0) * 10 + w.most(0, 0, 1), 0);
    }

    private static void mostNotGone() {
        T.says("how many BOATS that are not GONE can go by in them, each once, as if none had gone by in them yet");
        ArchTrades x = with("arch 4 4 9 1;boat cog 9 1 0 0 0;boat cog 9 1 0 0 0;boat cart 9 1 0 0 0;");
        T.due("each once", x.most(0, 11, -1), 3);
        x.pass(0, 0);
        x.pass(2, 0);
        T.due("not GONE", x.most(0, 11, -1), 1);
        T.due("as if none had gone", x.most(0, 0, 1), 0);
        T.due("GONE", x.most(0, 11, 0), NONE);
        T.due("GONE, above", x.most(0, 11, 2), NONE);
        for (int i = 0; i < 11; i++) {
            x.hour();
        }
        T.due("in HOURS that were", x.most(0, 0, 1), 0);
        x.pass(1, 0);
        T.due("all are GONE", x.most(0, 11, -1), 0);
        T.says("FORETOLD (nothing changes)");
        T.due("ACTS", x.count(4), 14);
        T.due("HOUR", x.count(3), 11);
        T.due("GONE", x.count(5), 3);
    }

    private static void mostCrowd() {
        T.says("MOST in HOURS a to b");
        ArchTrades x = with("arch 4 4 9 1;" + "boat cog 9 1 0 0 0;".repeat(6));
        for (int hours = 1; hours <= 12; hours++) {
            T.due("six by one ARCH in " + hours, x.most(0, hours - 1, -1), Math.min(6, hours));
            T.due("the last of them", x.most(0, hours - 1, 5), hours < 6 ? NONE : 30);
        }
        ArchTrades y = with("arch 4 4 9 1;".repeat(6) + "boat cog 9 1 0 0 0;".repeat(6));
        T.due("six by six in one", y.most(11, 11, -1), 6);
        for (int k = 0; k < 6; k++) {
            T.due("each by its own", y.most(11, 11, k), 66 + k);
        }
        // Each BOAT but the last can go by two ARCHES: all must make way for the last one.
        ArchTrades z = with("arch 4 4 4 1;arch 4 4 6 1;arch 4 4 8 1;arch 4 4 10 1;arch 4 4 12 1;arch 4 4 14 1;boat cog 13 1 0 0 0;"
            + "boat cog 11 1 0 0 0;boat cog 9 1 0 0 0;boat cog 7 1 0 0 0;boat cog 5 1 0 0 0;boat cog 4 1 0 0 0;");
        T.due("a chain of six", z.most(0, 0, -1), 6);
        T.due("the last has one place", z.most(0, 0, 5), 0);
    }

    private static String dealt(ArchTrades x, int a, int b) {
        StringBuilder s = new StringBuilder();
        for (int k = -1; k < x.count(1); k++) {
            s.append(x.anew(a, b, k)).append(k < 0 ? ":" : "");
        }
        return s.toString();
    }

    private static void anewRows() {
        T.says("the charter of each ARCH, of several the first row");
        T.same("one ARCH", dealt(with("arch 3 0 9 1;boat cog 0 0 0 0 1;"), 0, 0), "1:3");
        T.same("no BOATS: the first row of all", dealt(with("arch 4 0 9 1;arch 0 0 9 1;arch 2 0 9 1;"), 0, 11), "0:024");
        T.same("all the same", dealt(with("arch 1 0 9 1;".repeat(6) + "boat cog 9 0 1 0 0;"), 0, 0), "1:111111");
        T.same("six charters", dealt(with("arch 4 0 9 1;arch 3 0 9 1;arch 2 0 9 1;arch 1 0 9 1;arch 0 0 9 1;arch 0 0 9 1;"), 0, 0), "0:001234");
        String low = "arch 4 0 1 1;arch 3 0 1 1;arch 2 0 1 1;arch 1 0 1 1;arch 0 0 1 1;arch 0 0 9 1;";
        T.same("one high ARCH for a MIXED one", dealt(with(low + "boat cog 9 1 1 0 0;"), 0, 0), "1:001234");
        T.same("one high ARCH for TRADE 1", dealt(with(low + "boat cog 9 0 1 0 0;"), 0, 0), "1:001234");
        T.same("two of TRADE 0 in one HOUR", dealt(with("arch 4 0 9 1;arch 0 0 9 1;arch 1 0 1 1;" + "boat cog 9 1 0 0 0;".repeat(2)), 0, 0),
            "2:041");
        String last = "arch 0 0 9 1;arch 1 0 8 1;arch 2 0 7 1;arch 3 0 6 1;";
        T.same("the last row of all", dealt(with(last + "boat cog 6 1 0 0 0;boat cog 7 0 1 0 0;boat cog 8 0 0 1 0;boat cog 9 0 0 0 1;"), 0, 0),
            "4:3210");
        T.same("not all can go: the first of many rows", dealt(with("arch 2 0 9 1;arch 1 0 9 1;arch 0 0 9 1;" + "boat cog 9 1 0 0 0;".repeat(2)), 0, 0),
            "1:012");
        T.same("not all can go: the first of two rows", dealt(with("arch 2 0 9 1;arch 1 0 8 1;arch 0 0 7 1;" + "boat cog 8 0 0 1 0;".repeat(2)), 0, 0),
            "1:021");
        ArchTrades x = with("arch 1 0 9 1;arch 0 1 5 1;boat cog 9 1 0 0 0;boat cart 0 1 0 0 0;");
        T.due("as they are", x.most(0, 0, -1), 1);
        T.same("OVER stays, above counts", dealt(x, 0, 0), "2:01");
        x.pass(1, 0);
        T.same("GONE", dealt(x, 0, 0), "1:01");
        x.lend(0, 0, 4);
        T.same("the charters that there are, LENT ones", dealt(x, 0, 0), "1:04");
        T.due("nothing changes", x.arch(0, 0) * 10 + x.arch(1, 0), 40);
        T.due("no ACT", x.count(4), 2);
    }

    /** ARCHES each lower than the one before, and for each a BOAT that fits just there: one row alone lets all go by. */
    private static void anewEachRow() {
        T.says("so that MOST in HOURS a to b is greatest: how many");
        for (String told : new String[] {"01", "012", "0123", "0012", "0122", "00112", "001122", "001123", "000123"}) {
            eachRow(told, "", told);
        }
    }

    private static void eachRow(String told, String ahead, String left) {
        if (left.isEmpty()) {
            StringBuilder s = new StringBuilder(Texts.STILL);
            for (int i = 0; i < told.length(); i++) {
                s.append("arch ").append(told.charAt(i)).append(" 4 ").append(20 - i).append(" 1;");
            }
            for (int i = 0; i < ahead.length(); i++) {
                s.append("boat cog ").append(20 - i).append(loads(1 << ahead.charAt(i) - '0'));
            }
            T.same("charters " + told, dealt(Texts.with(s.toString()), 7, 7), told.length() + ":" + ahead);
        }
        for (int i = 0; i < left.length(); i++) {
            if (i == 0 || left.charAt(i) != left.charAt(i - 1)) {
                eachRow(told, ahead + left.charAt(i), left.substring(0, i) + left.substring(i + 1));
            }
        }
    }

    private static void anewShut() {
        T.says("the UNDER charters that there are dealt out anew among the ARCHES");
        ArchTrades x = with("arch 0 0 9 1;arch 1 0 9 1;boat cog 9 1 0 0 0;");
        x.shut(0, 1);
        T.due("as they are", x.most(0, 0, -1), 0);
        T.same("a SHUT one takes what is not needed", dealt(x, 0, 0), "1:10");
        x.shut(1, 1);
        T.same("all are SHUT", dealt(x, 0, 0), "0:01");
        ArchTrades y = Texts.with("tide 20 0 0 0 0 0 0 0 0 0 0 20;arch 1 0 9 1;arch 0 0 5 1;boat cog 9 1 0 0 0;");
        T.same("a flood", dealt(y, 0, 0), "0:01");
        T.same("up to the ebb", dealt(y, 0, 1), "1:01");
        T.same("in the last HOUR", dealt(y, 11, 11), "0:01");
    }

    private static void anewWrong() {
        T.says(19, "BAD; STATE: no BRIDGE (ahead of BAD)");
        ArchTrades x = with("arch 4 4 9 1;arch 3 4 9 1;boat cog 9 1 0 0 0;boat cog 9 1 0 0 0;boat cog 9 1 0 0 0;");
        ArchTrades none = new ArchTrades();
        for (int wild : new int[] {LEAST, -1, 12, GREATEST}) {
            T.due("a " + wild, x.anew(wild, 11, -1), BAD);
            T.due("b " + wild, x.anew(0, wild, -1), BAD);
            T.due("no BRIDGE, a " + wild, none.anew(wild, 11, -1), STATE);
            T.due("no BRIDGE, b " + wild, none.anew(0, wild, -1), STATE);
            T.due("no BRIDGE, k " + wild, none.anew(0, 0, wild), STATE);
        }
        for (int a = 0; a < 12; a++) {
            T.due("a is b", x.anew(a, a, -1), 1);
            T.due("a above b", x.anew(a, a - 1, -1), BAD);
        }
        for (int wild : new int[] {LEAST, -2, 2, 3, 6, GREATEST}) {
            T.due("k " + wild, x.anew(0, 11, wild), BAD);
        }
        T.says(19, "ANEW in HOURS a to b: how many (k = -1), the UNDER charter of ARCH k");
        T.due("how many", x.anew(0, 11, -1), 3);
        T.due("k the first ARCH", x.anew(0, 11, 0), 3);
        T.due("k the last ARCH", x.anew(0, 11, 1), 4);
        T.says(19, "STATE: no BRIDGE (ahead of BAD)");
        T.due("no BRIDGE", none.anew(0, 0, -1), STATE);
    }

    private static void cutEnds() {
        T.says("CUT at a tide (0 to 30): TRADES (bits) with which no barge of a MAST (0 to 20) could go UNDER any ARCH then");
        ArchTrades x = with("arch 0 4 10 1;arch 1 4 20 1;arch 2 4 30 1;");
        T.due("no tide, no MAST", x.cut(0, 0), 8);
        T.due("no tide, the greatest MAST", x.cut(0, 20), 9);
        T.due("tide 30, no MAST", x.cut(30, 0), 11);
        T.due("tide 30, MAST 1", x.cut(30, 1), 15);
        T.due("tide 30, MAST 20", x.cut(30, 20), 15);
        T.due("just", x.cut(4, 6), 8);
        T.due("not", x.cut(5, 6), 9);
        T.due("not by MAST", x.cut(4, 7), 9);
        T.says(20, "BAD; STATE: no BRIDGE (ahead of BAD)");
        ArchTrades none = new ArchTrades();
        for (int wild : new int[] {LEAST, -1, 31, GREATEST}) {
            T.due("tide " + wild, x.cut(wild, 0), BAD);
            T.due("no BRIDGE, tide " + wild, none.cut(wild, 0), STATE);
        }
        for (int wild : new int[] {LEAST, -1, 21, GREATEST}) {
            T.due("mast " + wild, x.cut(0, wild), BAD);
            T.due("no BRIDGE, mast " + wild, none.cut(0, wild), STATE);
        }
        T.due("no BRIDGE", none.cut(0, 0), STATE);
    }

    private static void cutWho() {
        T.says("with which no barge of a MAST (0 to 20) could go UNDER any ARCH then");
        ArchTrades x = with("arch 3 0 10 1;arch 4 1 20 1;");
        T.due("nobody's lets by all", x.cut(5, 15), 0);
        T.due("nobody's is too low", x.cut(5, 16), 15);
        x.shut(1, 1);
        T.due("nobody's is SHUT", x.cut(5, 5), 7);
        x.shut(0, 1);
        T.due("all are SHUT", x.cut(0, 0), 15);
        x.undo();
        x.lend(0, 0, 2);
        T.due("LENT", x.cut(5, 5), 11);
        x.lend(0, 1, 4);
        T.due("LENT above", x.cut(5, 5), 11);
    }

    private static void weighs() {
        T.says("what is of TRADE 0 weighs 3, of 1 5, of 2 7, of 3 11; by a row each BOAT is declared to have all of one TRADE");
        for (int is = 0; is < 4; is++) {
            for (int declared = 0; declared < 4; declared++) {
                ArchTrades x = with("arch 4 4 9 1;boat cog 0" + loads(1 << is));
                x.row(0, 0, 1);
                x.set(0, 0, declared);
                T.due("of " + is + " as of " + declared, x.weighed(0, 0), is == declared ? 0 : 1);
            }
        }
        T.says("BOATS (bits) that weigh more, or less than so much of that would");
        ArchTrades y = with("arch 4 4 9 1;boat cog 0 9 0 9 0;boat cog 0 9 0 8 0;boat cog 0 8 0 9 0;boat cog 0 0 0 0 0;boat cart 0 3 0 0 3;"
            + "boat wain 0 1 0 1 0;");
        y.row(0, 0, 6);
        for (int i = 0; i < 6; i++) {
            y.set(0, i, 1);
        }
        T.due("just, less, more, none", y.weighed(0, 0), 2 + 4 + 16);
        y.set(0, 4, 2);
        T.due("3 and 11 are two of 7", y.weighed(0, 0), 2 + 4);
        y.set(0, 5, 3);
        T.due("the last BOAT", y.weighed(0, 0), 2 + 4 + 32);
    }

    private static void weighedEnds() {
        T.says(21, "as many ITEMS as there are BOATS, of a ROW from i on");
        ArchTrades x = with("arch 4 4 9 1;boat cog 0 1 0 0 0;boat cog 0 0 1 0 0;");
        x.row(0, 0, 3);
        x.set(0, 1, 1);
        T.due("from 0 on", x.weighed(0, 0), 0);
        T.due("up to the end", x.weighed(0, 1), 3);
        T.due("beyond the end", x.weighed(0, 2), PLACE);
        T.due("status", x.status(), 2);
        T.due("at the end", x.weighed(0, 3), PLACE);
        T.due("-1", x.weighed(0, -1), PLACE);
        for (int wild : new int[] {LEAST, LEAST + 1, GREATEST, GREATEST - 1}) {
            T.due("i " + wild, x.weighed(0, wild), PLACE);
        }
        x.row(1, 1, 2);
        T.due("just as many", x.weighed(1, 0), 2);
        x.row(1, 2, 1);
        T.due("one fewer", x.weighed(1, 0), PLACE);
        x.row(1, 2, 0);
        T.due("none", x.weighed(1, 0), PLACE);
        ArchTrades y = with("arch 4 4 9 1;");
        y.row(0, 0, 0);
        T.due("no BOATS, no ITEMS", y.weighed(0, 0), 0);
        T.due("no BOATS, beyond", y.weighed(0, 1), PLACE);
        T.due("no BOATS, -1", y.weighed(0, -1), PLACE);
        y.row(0, 0, 40);
        T.due("no BOATS, at the end", y.weighed(0, 40), 0);
        T.due("no BOATS, behind it", y.weighed(0, 41), PLACE);
        ArchTrades z = with("arch 4 4 9 1;boat cog 0 1 0 1 0;boat cog 0 1 0 0 0;");
        z.row(0, 0, 2);
        T.due("two BOATS", z.weighed(0, 0), 1);
        z.split(0, 2);
        T.due("SPLIT: three", z.weighed(0, 0), PLACE);
        z.undo();
        z.pass(1, 0);
        T.due("of one GONE, too", z.weighed(0, 0), 1);
    }

    private static void weighedWrong() {
        T.says(21, "BAD: ROW; STATE: no BRIDGE (ahead of BAD); NULL; PLACE; then BAD: an ITEM that is no TRADE");
        ArchTrades none = new ArchTrades();
        none.row(0, 0, 9);
        ArchTrades x = with("arch 4 4 9 1;boat cog 0 1 0 0 0;");
        for (int wild : new int[] {LEAST, -1, 8, GREATEST}) {
            T.due("no BRIDGE, ROW " + wild, none.weighed(wild, 0), STATE);
            T.due("ROW " + wild, x.weighed(wild, 0), BAD);
            T.due("ROW " + wild + ", no place", x.weighed(wild, -1), BAD);
        }
        T.due("no BRIDGE", none.weighed(0, 0), STATE);
        T.due("no BRIDGE, missing", none.weighed(1, 0), STATE);
        T.due("no BRIDGE, no place", none.weighed(0, 9), STATE);
        T.due("missing", x.weighed(7, 0), NULL);
        T.due("missing, no place", x.weighed(7, -1), NULL);
        x.row(0, 2, 2);
        x.set(0, 1, 4);
        T.due("no place, ahead of no TRADE", x.weighed(0, 2), PLACE);
        T.due("no TRADE", x.weighed(0, 1), BAD);
    }

    private static void weighedItems() {
        T.says(21, "then BAD: an ITEM that is no TRADE");
        ArchTrades x = with("arch 4 4 9 1;boat cog 0 0 0 0 1;boat cog 0 0 0 0 1;");
        x.row(0, 2, 4);
        for (int wild : new int[] {LEAST, -1, 4, 5, GREATEST}) {
            x.set(0, 1, 3);
            x.set(0, 2, wild);
            T.due("the second, " + wild, x.weighed(0, 1), BAD);
            T.due("the first, " + wild, x.weighed(0, 2), BAD);
            T.due("not looked at, " + wild, x.weighed(0, 0), 1);
        }
        x.set(0, 2, 3);
        T.due("3 is one", x.weighed(0, 1), 0);
        x.set(0, 2, 0);
        T.due("0 is one", x.weighed(0, 1), 2);
        x.row(1, 0, 2);
        x.set(1, 0, 259);
        T.due("as the LANE cut it", x.weighed(1, 0), 2);
        x.set(0, 9, 0);
        T.due("a finding ahead", x.status(), 2);
        x.row(2, 0, 2);
        x.set(2, 1, 4);
        x.drop(7);
        T.due("BAD by an ITEM", x.weighed(2, 0), BAD);
        T.due("leaves status()", x.status(), 1);
    }

    private static void images() {
        T.says(22, "An IMAGE (0, 1) is kept of the BRIDGE: 1");
        ArchTrades x = with("arch 4 4 9 1;boat cog 0 1 0 0 0;");
        T.due("0", x.image(0), 1);
        x.hour();
        T.due("1", x.image(1), 1);
        T.due("ACTS stay", x.count(4), 1);
        x.hour();
        T.due("0 in place of the one before", x.image(0), 1);
        x.restore(1);
        T.due("1 as it was kept", x.count(3), 1);
        x.restore(0);
        T.due("0 as it was kept last", x.count(3), 2);
        T.says(22, "BAD; STATE: no BRIDGE");
        ArchTrades none = new ArchTrades();
        for (int wild : new int[] {LEAST, -1, 2, 3, GREATEST}) {
            T.due("image(" + wild + ")", x.image(wild), BAD);
            T.due("no BRIDGE, image(" + wild + ")", none.image(wild), BAD);
        }
        T.due("no BRIDGE, 0", none.image(0), STATE);
        T.due("no BRIDGE, 1", none.image(1), STATE);
        none.bridge();
        T.due("no BRIDGE behind a FAULT", none.image(1), STATE);
        T.due("none was kept", none.restore(1), STATE);
    }

    private static void restores() {
        T.says(23, "The BRIDGE is as an IMAGE kept it (no ACT can be undone then): 1");
        ArchTrades x = Texts.with(Texts.TIDE + "arch 4 4 20 1;arch 0 1 9 2;boat cog 5 1 2 0 0;boat cart 5 0 2 3 0;");
        x.pass(0, 0);
        x.lend(1, 0, 3);
        x.shut(1, 1);
        x.split(1, 1);
        x.image(0);
        x.undo();
        x.undo();
        x.undo();
        x.undo();
        Texts.bridge(x, Texts.STILL + "arch 2 2 30 9;boat raft 20 9 9 9 9;");
        x.image(1);
        x.hour();
        T.due("restore(0)", x.restore(0), 1);
        int[] counts = {0, 2, 3, 0, 0, 1, 6, 0};
        for (int what = 0; what < 8; what++) {
            T.due("count(" + what + ")", x.count(what), counts[what]);
        }
        T.due("LENT", x.arch(1, 0), 3);
        T.due("SHUT", x.arch(1, 4), 1);
        T.due("below", x.arch(0, 5), 1);
        T.due("tide", x.may(1, 6), 1);
        T.due("SPLIT", x.boat(2, 1), 2);
        T.due("no ACT", x.undo(), STATE);
        x.hour();
        T.due("an ACT since", x.undo(), 0);
        x.shut(1, 0);
        T.due("restore(0) again", x.restore(0), 1);
        T.due("as it was kept", x.arch(1, 4), 1);
        T.due("restore(1)", x.restore(1), 1);
        T.due("the other BRIDGE", x.arch(0, 2), 30);
        T.due("its HOUR", x.count(3), 0);
        T.due("its TOLL", x.count(6), 0);
        T.says(23, "BAD; STATE: none was kept");
        ArchTrades none = new ArchTrades();
        for (int wild : new int[] {LEAST, -1, 2, 3, GREATEST}) {
            T.due("restore(" + wild + ")", x.restore(wild), BAD);
            T.due("none kept, restore(" + wild + ")", none.restore(wild), BAD);
        }
        T.due("none kept, 0", none.restore(0), STATE);
        T.due("none kept, 1", none.restore(1), STATE);
        Texts.bridge(none, Texts.STILL + "arch 2 2 30 9;");
        none.hour();
        none.image(1);
        T.due("none kept, 0 yet", none.restore(0), STATE);
        T.due("the ACT stays", none.count(4), 1);
        T.due("1", none.restore(1), 1);
        T.due("HOUR 1", none.count(3), 1);
    }
}
