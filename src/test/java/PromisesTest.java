/** Each promise by ordinary inputs, the edges that the document names, and wrong inputs. */
public final class PromisesTest {
    private static final int NONE = -1000000, BAD = -1000001, STATE = -1000002, FULL = -1000003;
    private static final int NULL = -1000011, PLACE = -1000012, KIND = -1000013, SIZE = -1000014, STORE = -1000015;
    private static final int LEAST = Integer.MIN_VALUE, GREATEST = Integer.MAX_VALUE;
    private static final int[] WILD = {LEAST, -1000, -2, -1, 100, 1000, GREATEST - 1, GREATEST};

    private static final Check CHECK = new Check("PromisesTest");

    private PromisesTest() {
    }

    public static void main(String[] args) {
        newObject();
        row();
        set();
        copy();
        copyFindings();
        drop();
        feed();
        bridge();
        tokens();
        faults();
        rooms();
        fault();
        lend();
        shut();
        pass();
        passSides();
        toll();
        split();
        hour();
        undo();
        undoForgets();
        undoHour();
        arch();
        boat();
        may();
        mayOver();
        most();
        mostFirstRow();
        anew();
        cut();
        weighed();
        weighedFindings();
        image();
        restore();
        kind();
        as();
        ask();
        trace();
        count();
        status();
        wildNumbers();
        CHECK.end();
    }

    private static void due(String call, long got, long want) {
        CHECK.due(call, got, want);
    }

    /** 3 arches, a boat of each sort. */
    private static ArchTrades common() {
        return Texts.with(Texts.TIDE + "arch 0 1 15 2;arch 1 0 9 5;arch 4 2 20 1;boat barge 5 3 0 0 0;"
            + "boat cog 9 0 4 0 0;boat raft 12 2 2 0 0;boat cart 0 0 6 0 0;boat wain 0 0 0 5 0;");
    }

    private static void newObject() {
        ArchTrades x = new ArchTrades();
        for (int what = 0; what < 8; what++) {
            due("1 count(" + what + ")", x.count(what), 0);
        }
        due("1 fault", x.fault(), 0);
        due("1 status", x.status(), 0);
        due("1 trace", x.trace(0), NONE);
        due("1 hour", x.hour(), STATE);
        due("1 undo", x.undo(), STATE);
        due("1 image", x.image(0), STATE);
        due("1 restore", x.restore(1), STATE);
        due("1 most", x.most(0, 0, -1), STATE);
        due("1 most ahead of BAD", x.most(5, 0, 77), STATE);
        due("1 anew ahead of BAD", x.anew(-1, 99, 77), STATE);
        due("1 cut ahead of BAD", x.cut(-1, 99), STATE);
        due("1 weighed ahead of BAD", x.weighed(-1, 0), STATE);
        due("1 arch", x.arch(0, 0), BAD);
        due("1 boat", x.boat(0, 0), BAD);
        due("1 drop", x.drop(7), NULL);
    }

    private static void row() {
        ArchTrades x = new ArchTrades();
        due("2 row", x.row(0, 0, 0), 0);
        due("2 greatest", x.row(7, 2, 40), 40);
        due("2 above 40", x.row(1, 2, 41), BAD);
        due("2 ROW -1", x.row(-1, 0, 1), BAD);
        due("2 ROW 8", x.row(8, 0, 1), BAD);
        due("2 LANE -1", x.row(1, -1, 1), BAD);
        due("2 LANE 3", x.row(1, 3, 1), BAD);
        due("2 SIZE", x.row(1, 0, -1), SIZE);
        due("2 BAD ahead of SIZE", x.row(8, 0, -1), BAD);
        due("2 BAD LANE ahead of SIZE", x.row(1, 3, -1), BAD);
        due("2 two ROWS", x.count(0), 2);
        due("2 refused: still missing", x.set(1, 0, 0), NULL);
        x.row(2, 1, 3);
        x.set(2, 1, 77);
        due("2 anew, in place", x.row(2, 2, 2), 2);
        x.row(3, 2, 2);
        x.set(3, 0, 5);
        due("2 of the new LANE", x.copy(2, 0, 3, 0, 2), 2);
        due("2 the new end", x.set(2, 2, 1), PLACE);
        due("2 refused: what is there stays", x.row(2, 0, -5), SIZE);
        due("2 it stays", x.set(2, 1, 70000), 70000);
        itemsAreNone();
    }

    /** ITEMS are seen by what weighing shows: an EMPTY boat weighs as declared, by a TRADE alone. */
    private static void itemsAreNone() {
        ArchTrades x = Texts.with(Texts.STILL + "arch 4 4 9 0;boat cog 0 0 1 0 0;");
        x.row(0, 0, 2);
        x.set(0, 1, 1);
        due("2 told", x.weighed(0, 1), 0);
        x.row(0, 0, 2);
        due("2 all 0 again", x.weighed(0, 1), 1);
    }

    private static void set() {
        ArchTrades x = new ArchTrades();
        x.row(0, 0, 2);
        x.row(1, 1, 2);
        x.row(2, 2, 2);
        due("3 byte", x.set(0, 0, 127), 127);
        due("3 byte 128", x.set(0, 0, 128), -128);
        due("3 byte 256", x.set(0, 1, 256), 0);
        due("3 byte -129", x.set(0, 1, -129), 127);
        due("3 byte least", x.set(0, 1, LEAST), 0);
        due("3 short", x.set(1, 0, 32768), -32768);
        due("3 short 65535", x.set(1, 1, 65535), -1);
        due("3 short 65536", x.set(1, 1, 65536 + 7), 7);
        due("3 int", x.set(2, 0, GREATEST), GREATEST);
        due("3 int least", x.set(2, 1, LEAST), LEAST);
        due("3 PLACE 2", x.set(2, 2, 1), PLACE);
        due("3 PLACE -1", x.set(2, -1, 1), PLACE);
        due("3 NULL", x.set(3, 9, 1), NULL);
        due("3 BAD", x.set(8, 0, 1), BAD);
        due("3 BAD -1", x.set(-1, 0, 1), BAD);
        x.row(4, 0, 0);
        due("3 PLACE of none", x.set(4, 0, 1), PLACE);
    }

    private static void copy() {
        ArchTrades x = Texts.with(Texts.STILL + "arch 4 4 9 0;boat cog 0 0 1 0 0;boat cog 0 0 0 1 0;boat cog 0 0 0 0 1;");
        x.row(0, 0, 6);
        x.row(1, 0, 3);
        for (int i = 0; i < 6; i++) {
            x.set(0, i, i % 4);
        }
        due("4 copy", x.copy(0, 1, 1, 0, 3), 3);
        due("4 what came", x.weighed(1, 0), 0);
        due("4 onto itself, behind", x.copy(0, 0, 0, 1, 4), 4);
        // 0 0 1 2 3 1
        due("4 as they were ahead, behind", x.weighed(0, 2), 0);
        due("4 onto itself, ahead", x.copy(0, 2, 0, 1, 4), 4);
        // 0 1 2 3 1 1
        due("4 as they were ahead, ahead", x.weighed(0, 1), 0);
        due("4 the first stays", x.weighed(0, 0), 7);
        due("4 none", x.copy(0, 6, 1, 3, 0), 0);
        due("4 of itself", x.copy(1, 0, 1, 0, 3), 3);
    }

    private static void copyFindings() {
        ArchTrades x = new ArchTrades();
        x.row(0, 0, 4);
        x.row(1, 0, 2);
        x.row(2, 1, 2);
        due("4 BAD a", x.copy(8, 0, 1, 0, 1), BAD);
        due("4 BAD b ahead of NULL", x.copy(5, 0, -1, 0, 1), BAD);
        due("4 NULL a", x.copy(5, 0, 1, 0, 1), NULL);
        due("4 NULL b", x.copy(0, 0, 5, 0, 1), NULL);
        due("4 NULL ahead of PLACE", x.copy(0, -1, 5, 0, 1), NULL);
        due("4 STORE", x.copy(0, 0, 2, 0, 1), STORE);
        due("4 STORE of none", x.copy(0, 0, 2, 0, 0), STORE);
        due("4 STORE ahead of PLACE", x.copy(0, -1, 2, 0, 1), STORE);
        due("4 PLACE i", x.copy(0, -1, 1, 0, 1), PLACE);
        due("4 PLACE j", x.copy(0, 0, 1, -1, 1), PLACE);
        due("4 PLACE n", x.copy(0, 0, 1, 0, -1), PLACE);
        due("4 beyond a", x.copy(0, 3, 1, 0, 2), PLACE);
        due("4 beyond b", x.copy(0, 0, 1, 1, 2), PLACE);
        due("4 i wraps", x.copy(0, GREATEST, 1, 0, 1), PLACE);
        due("4 n wraps", x.copy(0, 1, 1, 1, GREATEST), PLACE);
        due("4 i beyond, none", x.copy(0, 5, 1, 0, 0), PLACE);
    }

    private static void drop() {
        ArchTrades x = new ArchTrades();
        x.row(3, 2, 17);
        x.row(4, 2, 0);
        due("5 drop", x.drop(3), 17);
        due("5 again", x.drop(3), NULL);
        due("5 of none", x.drop(4), 0);
        due("5 BAD", x.drop(8), BAD);
        due("5 BAD -1", x.drop(-1), BAD);
        due("5 missing", x.set(3, 0, 0), NULL);
        due("5 none there", x.count(0), 0);
    }

    private static void feed() {
        ArchTrades x = new ArchTrades();
        due("6 n 0", x.feed(0, 0), BAD);
        due("6 n 9", x.feed(0, 9), BAD);
        due("6 n -1", x.feed(0, -1), BAD);
        due("6 one", x.feed(-1L, 1), 1);
        for (int i = 0; i < 62; i++) {
            due("6 eight", x.feed(-1L, 8), 9 + 8 * i);
        }
        due("6 FULL", x.feed(0, 4), FULL);
        due("6 none came", x.count(7), 497);
        due("6 BAD ahead of FULL", x.feed(0, 9), BAD);
        due("6 up to 500", x.feed(0, 3), 500);
        due("6 FULL of one", x.feed(0, 1), FULL);
        due("6 read whole", x.bridge(), -1000100);
        due("6 empty then", x.count(7), 0);
        byte[] tide = {'x', 'y', 't', 'i', 'd', 'e'};
        x.feed(Texts.packed(tide, 0, 6), 4);
        due("6 the lowest, highest first", x.bridge(), -1000104);
        due("6 the end", x.fault(), 1);
    }

    private static void bridge() {
        ArchTrades x = common();
        due("7 three", x.count(1), 3);
        x.hour();
        x.shut(0, 1);
        x.pass(3, 1);
        due("7 acts", x.count(4), 2);
        due("7 a FAULT", Texts.bridge(x, "tide 0 1 x"), -1000109);
        due("7 all stays: ARCHES", x.count(1), 3);
        due("7 all stays: HOUR", x.count(3), 1);
        due("7 all stays: SHUT", x.arch(0, 4), 1);
        due("7 all stays: ACTS", x.count(4), 2);
        due("7 the tape is empty", x.count(7), 0);
        due("7 in place", Texts.bridge(x, Texts.TIDE + "arch 3 2 30 9;arch 0 0 1 0;boat cart 20 9 0 0 9;"), 2);
        due("7 ARCHES", x.count(1), 2);
        due("7 BOATS", x.count(2), 1);
        due("7 HOUR 0", x.count(3), 0);
        due("7 no ACT", x.count(4), 0);
        due("7 none GONE", x.count(5), 0);
        due("7 no TOLL", x.count(6), 0);
        due("7 none SHUT", x.arch(0, 4), 0);
        due("7 UNDER", x.arch(0, 0), 3);
        due("7 OVER", x.arch(0, 1), 2);
        due("7 HIGH", x.arch(0, 2), 30);
        due("7 TOLL", x.arch(0, 3), 9);
        due("7 MAST", x.boat(0, 4), 20);
        due("7 load", x.boat(0, 3), 9);
        marksAreGone();
    }

    private static void marksAreGone() {
        String text = Texts.STILL + "arch 4 4 30 1;boat cart 0 1 0 0 0;";
        ArchTrades x = Texts.with(text);
        due("7 pass", x.pass(0, 0), 1);
        due("7 above", x.arch(0, 6), 1);
        due("7 read again", Texts.bridge(x, text), 1);
        due("7 nobody above", x.arch(0, 6), 0);
        due("7 pass again", x.pass(0, 0), 1);
    }

    private static void tokens() {
        String numbers = "0 0 0 0 0 0 0 0 0 0 0 0;";
        ArchTrades x = new ArchTrades();
        due("7 blanks", Texts.bridge(x, "\n tide\n\n" + numbers + " \narch 0 1\n2 3 ; \n"), 1);
        due("7 no blanks where none is needed", Texts.bridge(x, "tide" + numbers + "arch4 4 1 0;boat raft3 1 2 3 4;"), 1);
        due("7 its MAST", x.boat(0, 4), 3);
        due("7 figures with 0 ahead", Texts.bridge(x, "tide 020 0 0 0 0 0 0 0 0 0 0 000;arch 004 4 030 009;"), 1);
        due("7 as told", x.arch(0, 2), 30);
        due("7 four figures are none", Texts.bridge(x, "tide 0000 0"), -1000105);
        due("7 of one TOKEN the least", x.fault(), 1);
        due("7 three figures", Texts.bridge(x, "tide 0 999"), -1000107);
        due("7 not as told", x.fault(), 2);
        due("7 no such byte", Texts.bridge(x, "tide 0 -1"), -1000107);
        due("7 byte 9", Texts.bridge(x, "tide\t0"), -1000104);
        due("7 byte 13", Texts.bridge(x, "tide 0\r\n"), -1000106);
        due("7 great letters", Texts.bridge(x, "Tide 0"), -1000100);
        due("7 byte 233", Texts.bridge(x, "tide " + (char) 233), -1000105);
        due("7 byte 0", Texts.bridge(x, " \0tide"), -1000101);
        due("7 the end behind blanks", Texts.bridge(x, "tide 0  \n"), -1000109);
        due("7 blanks alone", Texts.bridge(x, "   "), -1000103);
        due("7 a longer word", Texts.bridge(x, "tides 0"), -1000100);
        due("7 a shorter word", Texts.bridge(x, "tid 0"), -1000100);
    }

    private static void faultAt(String text, int place, int number) {
        ArchTrades x = new ArchTrades();
        due("7 '" + text + "'", Texts.bridge(x, text), -1000100 - place);
        due("8 '" + text + "'", x.fault(), number);
    }

    private static void faults() {
        String tide = Texts.TIDE;
        int n = tide.length();
        faultAt("", 0, 1);
        faultAt("boat", 0, 1);
        faultAt("5", 0, 1);
        faultAt(";", 0, 1);
        faultAt("tidez 0", 0, 1);
        faultAt("atide 0", 0, 1);
        faultAt("tide{", 4, 1);
        faultAt("tide`", 4, 1);
        faultAt("tide 0/", 6, 1);
        faultAt("tide 0:", 6, 1);
        faultAt("tide;", 4, 1);
        faultAt("tide 20 21;", 8, 2);
        faultAt("tide 0 0 0 0 0 0 0 0 0 0 0 0 0;", 29, 1);
        faultAt("tide 0 0 0 0 0 0 0 0 0 0 0 0 99;", 29, 1);
        faultAt("tide 0 0 0 0 0 0 0 0 0 0 0;", 26, 1);
        faultAt(tide + "boat cog 0 0 0 0 0;", n, 1);
        faultAt(tide + "tide", n, 1);
        faultAt(tide + "arch", n + 4, 1);
        faultAt(tide + "arch 5 9 0 10;", n + 5, 2);
        faultAt(tide + "arch 4 4 0 10;", n + 9, 2);
        faultAt(tide + "arch 4 4 31 10;", n + 9, 2);
        faultAt(tide + "arch 4 4 30 10;", n + 12, 2);
        faultAt(tide + "arch 4 4 30 9 9;", n + 14, 1);
        faultAt(tide + "arch 4 x 30 9;", n + 7, 1);
        String arch = tide + "arch 4 4 30 9;";
        int m = arch.length();
        faultAt(arch + "boats", m, 1);
        faultAt(arch + "7", m, 1);
        faultAt(arch + "boat", m + 4, 1);
        faultAt(arch + "boat boat", m + 5, 1);
        faultAt(arch + "boat 5", m + 5, 1);
        faultAt(arch + "boat wains 0", m + 5, 1);
        faultAt(arch + "boat wain 21", m + 10, 2);
        faultAt(arch + "boat wain 20 9 9 9 10;", m + 19, 2);
        faultAt(arch + "boat wain 20 9 9 9 9 9;", m + 21, 1);
        faultAt(arch + "boat wain 20 9 9 9 9;arch", m + 21, 1);
        faultAt(arch + "boat wain 20 9 9 9 9; tide", m + 22, 1);
        faultAt(arch + "boat wain 20 9 9 9 9; ?", m + 22, 1);
    }

    private static void rooms() {
        String arches = Texts.STILL + "arch 0 0 1 0;".repeat(6);
        int n = arches.length();
        due("7 six", Texts.bridge(new ArchTrades(), arches), 6);
        faultAt(arches + "arch", n, 3);
        faultAt(arches + "arch 9 9", n, 3);
        faultAt(arches + "boat cog 0 0 0 0 0; arch", n + 20, 1);
        String boats = arches + "boat cog 0 0 0 0 0;".repeat(6);
        due("7 six boats", Texts.bridge(new ArchTrades(), boats), 6);
        faultAt(boats + "boat", boats.length(), 3);
        faultAt(boats + " boat cog", boats.length() + 1, 3);
        faultAt(boats + "arch", boats.length(), 1);
        faultAt(boats + "cog", boats.length(), 1);
    }

    private static void fault() {
        ArchTrades x = new ArchTrades();
        due("8 before one", x.fault(), 0);
        Texts.bridge(x, Texts.STILL + "arch 0 0 1 0;");
        due("8 none yet", x.fault(), 0);
        Texts.bridge(x, "tide 21");
        due("8 two", x.fault(), 2);
        Texts.bridge(x, Texts.STILL + "arch 0 0 1 0;");
        due("8 the latest stays", x.fault(), 2);
        x.bridge();
        due("8 one", x.fault(), 1);
    }

    private static void lend() {
        ArchTrades x = common();
        due("9 whose it was", x.lend(0, 0, 4), 0);
        due("9 UNDER", x.arch(0, 0), 4);
        due("9 OVER stays", x.arch(0, 1), 1);
        due("9 OVER", x.lend(2, 1, 3), 2);
        due("9 lent", x.arch(2, 1), 3);
        due("9 again", x.lend(0, 0, 1), 4);
        due("9 the same", x.lend(0, 0, 1), 1);
        due("9 acts", x.count(4), 4);
        due("9 BAD arch", x.lend(3, 0, 0), BAD);
        due("9 BAD -1", x.lend(-1, 0, 0), BAD);
        due("9 BAD which", x.lend(0, 2, 0), BAD);
        due("9 BAD which -1", x.lend(0, -1, 0), BAD);
        due("9 BAD trade", x.lend(0, 0, 5), BAD);
        due("9 BAD trade -1", x.lend(0, 0, -1), BAD);
        due("9 refused: no act", x.count(4), 4);
        due("9 who goes by", x.may(0, 0), 4);
        x.lend(1, 0, 4);
        due("9 who goes by then", x.may(0, 0), 6);
    }

    private static void shut() {
        ArchTrades x = common();
        due("10 how it was", x.shut(2, 1), 0);
        due("10 SHUT", x.arch(2, 4), 1);
        due("10 others not", x.arch(1, 4), 0);
        due("10 may not", x.may(0, 0), 1);
        due("10 again", x.shut(2, 1), 1);
        due("10 open", x.shut(2, 0), 1);
        due("10 may", x.may(0, 0), 5);
        due("10 acts", x.count(4), 3);
        due("10 BAD", x.shut(3, 0), BAD);
        due("10 BAD -1", x.shut(-1, 0), BAD);
        due("10 BAD is", x.shut(0, 2), BAD);
        due("10 BAD is -1", x.shut(0, -1), BAD);
        x.shut(1, 1);
        due("10 over, too", x.pass(3, 1), STATE);
        due("10 wain over", x.may(4, 0), 4);
        x.shut(2, 1);
        due("10 wain not over", x.may(4, 0), 0);
    }

    private static void pass() {
        ArchTrades x = common();
        due("11 its TOLL", x.pass(0, 0), 6);
        due("11 GONE", x.boat(0, 5), 1);
        due("11 below", x.arch(0, 5), 1);
        due("11 not above", x.arch(0, 6), 0);
        due("11 had", x.count(6), 6);
        due("11 one GONE", x.count(5), 1);
        due("11 GONE already", x.pass(0, 2), STATE);
        due("11 may not", x.pass(1, 0), STATE);
        due("11 by nobody's", x.pass(2, 2), 8);
        due("11 one went there", x.pass(1, 2), STATE);
        due("11 another ARCH", x.pass(1, 1), 20);
        due("11 BAD boat", x.pass(5, 0), BAD);
        due("11 BAD arch", x.pass(3, 3), BAD);
        due("11 BAD -1", x.pass(-1, 0), BAD);
        due("11 BAD arch -1", x.pass(3, -1), BAD);
        due("11 BAD ahead of STATE", x.pass(0, 3), BAD);
        due("11 all TOLL", x.count(6), 34);
        due("11 acts", x.count(4), 3);
    }

    private static void passSides() {
        ArchTrades x = Texts.with("tide 0 10 0 0 0 0 0 0 0 0 0 0;arch 4 4 10 1;boat barge 5 1 0 0 0;boat cart 5 2 0 0 0;"
            + "boat wain 5 3 0 0 0;boat cog 1 4 0 0 0;");
        due("11 below", x.pass(0, 0), 1);
        due("11 above beside", x.pass(1, 0), 2);
        due("11 above is taken", x.pass(2, 0), STATE);
        due("11 below is taken", x.pass(3, 0), STATE);
        due("11 next", x.hour(), 1);
        due("11 too high a tide below", x.pass(3, 0), STATE);
        due("11 tide as HIGH above", x.pass(2, 0), 3);
        due("11 next", x.hour(), 2);
        due("11 below again", x.pass(3, 0), 4);
        due("11 all", x.count(6), 10);
    }

    private static void toll() {
        ArchTrades x = Texts.with(Texts.STILL + "arch 4 4 10 3;arch 4 4 10 0;boat cog 0 2 0 0 0;boat cog 0 1 1 0 0;"
            + "boat cart 0 0 0 0 0;boat cart 0 9 9 9 9;boat raft 0 0 0 3 4;");
        due("11 one TRADE", x.pass(0, 0), 6);
        due("11 no TOLL", x.pass(1, 1), 0);
        due("11 EMPTY", x.pass(2, 0), 0);
        x.hour();
        due("11 MIXED twice", x.pass(4, 0), 42);
        due("11 MIXED cart twice", x.pass(3, 0), 216);
        due("11 had", x.count(6), 264);
    }

    private static void split() {
        ArchTrades x = Texts.with(Texts.STILL + "arch 0 0 10 3;boat raft 7 2 3 0 1;boat cart 0 0 0 5 0;boat cog 0 0 0 0 0;"
            + "boat wain 3 1 1 0 0;");
        due("12 its number", x.split(0, 1), 4);
        due("12 all comes", x.boat(4, 1), 3);
        due("12 nothing else", x.boat(4, 0) + x.boat(4, 2) + x.boat(4, 3), 0);
        due("12 out of it", x.boat(0, 1), 0);
        due("12 the rest stays", x.boat(0, 0), 2);
        due("12 its SORT", x.kind(4), 3);
        due("12 its MAST", x.boat(4, 4), 7);
        due("12 not GONE", x.boat(4, 5), 0);
        due("12 PORTERS", x.boat(0, 7), 1);
        due("12 none of that", x.split(0, 1), STATE);
        due("12 nothing else in it", x.split(1, 2), STATE);
        due("12 EMPTY", x.split(2, 0), STATE);
        due("12 BAD boat", x.split(5, 0), BAD);
        due("12 BAD trade", x.split(0, 4), BAD);
        due("12 BAD -1", x.split(0, -1), BAD);
        due("12 a wain", x.split(3, 0), 5);
        due("12 its kind", x.kind(5), 5);
        due("12 STATE ahead of FULL", x.split(0, 1), STATE);
        due("12 FULL", x.split(0, 0), FULL);
        due("12 six", x.count(2), 6);
        due("12 acts", x.count(4), 2);
        due("12 undone", x.undo(), 1);
        due("12 back", x.boat(3, 0), 1);
        due("12 room again", x.split(0, 0), 5);
        splitOfGone();
    }

    private static void splitOfGone() {
        ArchTrades x = Texts.with(Texts.STILL + "arch 4 4 10 3;boat raft 7 2 3 0 1;");
        due("12 goes", x.pass(0, 0), 36);
        due("12 GONE", x.split(0, 0), STATE);
    }

    private static void hour() {
        ArchTrades x = new ArchTrades();
        due("13 no BRIDGE", x.hour(), STATE);
        x = common();
        for (int hour = 1; hour < 12; hour++) {
            due("13 hour", x.hour(), hour);
        }
        due("13 FULL", x.hour(), FULL);
        due("13 the last", x.count(3), 11);
        due("13 acts", x.count(4), 11);
    }

    private static void undo() {
        ArchTrades x = common();
        due("14 none", x.undo(), STATE);
        x.lend(0, 1, 4);
        x.shut(1, 1);
        x.pass(0, 0);
        x.split(2, 0);
        x.hour();
        due("14 hour", x.undo(), 4);
        due("14 hour 0", x.count(3), 0);
        due("14 below still", x.arch(0, 5), 1);
        due("14 split", x.undo(), 3);
        due("14 five", x.count(2), 5);
        due("14 MIXED", x.boat(2, 6), 1);
        due("14 load", x.boat(2, 0), 2);
        due("14 pass", x.undo(), 2);
        due("14 not GONE", x.boat(0, 5), 0);
        due("14 none below", x.arch(0, 5), 0);
        due("14 TOLL", x.count(6), 0);
        due("14 shut", x.undo(), 1);
        due("14 open", x.arch(1, 4), 0);
        due("14 lend", x.undo(), 0);
        due("14 whose", x.arch(0, 1), 1);
        due("14 none again", x.undo(), STATE);
        x.shut(1, 1);
        x.shut(1, 1);
        x.undo();
        due("14 as it was", x.arch(1, 4), 1);
    }

    private static void undoForgets() {
        ArchTrades x = common();
        for (int i = 0; i < 30; i++) {
            x.lend(0, 0, i % 5);
        }
        due("14 24 at most", x.count(4), 24);
        for (int left = 23; left >= 0; left--) {
            due("14 left", x.undo(), left);
            due("14 whose", x.arch(0, 0), (left + 5) % 5);
        }
        due("14 the oldest are forgotten", x.undo(), STATE);
        due("14 so it stays", x.arch(0, 0), 0);
        for (int i = 0; i < 25; i++) {
            x.shut(0, i % 2);
        }
        due("14 24 again", x.count(4), 24);
    }

    private static void undoHour() {
        ArchTrades x = Texts.with(Texts.STILL + "arch 4 4 10 1;boat cog 0 1 0 0 0;boat cog 0 2 0 0 0;boat cart 0 3 0 0 0;");
        x.pass(0, 0);
        x.hour();
        due("14 free in the next", x.arch(0, 5), 0);
        due("14 goes", x.pass(1, 0), 2);
        x.undo();
        x.undo();
        due("14 as it was in that HOUR", x.arch(0, 5), 1);
        due("14 taken", x.pass(1, 0), STATE);
        due("14 above free", x.pass(2, 0), 3);
        x.hour();
        due("14 free anew", x.arch(0, 5) + x.arch(0, 6), 0);
        due("14 goes anew", x.pass(1, 0), 2);
    }

    private static void arch() {
        ArchTrades x = common();
        int[] want = {1, 0, 9, 5, 0, 0, 0};
        for (int what = 0; what < 7; what++) {
            due("15 of 1: " + what, x.arch(1, what), want[what]);
        }
        due("15 BAD", x.arch(3, 0), BAD);
        due("15 BAD -1", x.arch(-1, 0), BAD);
        due("15 BAD what", x.arch(0, 7), BAD);
        due("15 BAD what -1", x.arch(0, -1), BAD);
        x.pass(4, 2);
        due("15 above", x.arch(2, 6), 1);
        due("15 not below", x.arch(2, 5), 0);
        x.hour();
        due("15 in this HOUR", x.arch(2, 6), 0);
    }

    private static void boat() {
        ArchTrades x = Texts.with(Texts.STILL + "arch 0 0 10 3;boat raft 7 2 3 4 1;boat cart 20 0 0 5 0;boat cog 0 0 0 0 0;"
            + "boat wain 3 4 4 0 0;");
        int[][] want = {{2, 3, 4, 1, 7, 0, 1, 6}, {0, 0, 5, 0, 20, 0, 0, 0}, {0, 0, 0, 0, 0, 0, 0, 0}, {4, 4, 0, 0, 3, 0, 1, 4}};
        for (int boat = 0; boat < 4; boat++) {
            for (int what = 0; what < 8; what++) {
                due("16 boat(" + boat + ", " + what + ")", x.boat(boat, what), want[boat][what]);
            }
        }
        due("16 BAD", x.boat(4, 0), BAD);
        due("16 BAD -1", x.boat(-1, 0), BAD);
        due("16 BAD what", x.boat(0, 8), BAD);
        due("16 BAD what -1", x.boat(0, -1), BAD);
    }

    private static void may() {
        ArchTrades x = Texts.with("tide 0 4 5 6 20 0 0 0 0 0 0 0;arch 0 1 10 0;arch 1 0 10 0;arch 4 4 7 0;"
            + "boat barge 5 1 0 0 0;boat cog 6 0 0 0 0;boat raft 5 1 1 0 0;boat raft 9 0 1 0 0;boat cog 6 0 0 1 0;");
        due("17 its own and nobody's", x.may(0, 0), 5);
        due("17 tide 4", x.may(0, 1), 1);
        due("17 just", x.may(0, 2), 1);
        due("17 not", x.may(0, 3), 0);
        due("17 EMPTY by any", x.may(1, 0), 7);
        due("17 EMPTY too high", x.may(1, 2), 0);
        due("17 MIXED by nobody's alone", x.may(2, 0), 4);
        due("17 half the MAST, cut", x.may(2, 2), 4);
        due("17 not half", x.may(2, 3), 0);
        due("17 raft of 9 needs 4", x.may(3, 3), 2);
        due("17 none of its TRADE", x.may(4, 0), 4);
        due("17 flood", x.may(2, 4), 0);
        due("17 BAD hour", x.may(0, 12), BAD);
        due("17 BAD hour -1", x.may(0, -1), BAD);
        due("17 BAD boat", x.may(5, 0), BAD);
        due("17 BAD boat -1", x.may(-1, 0), BAD);
        x.pass(0, 0);
        due("17 of one GONE, too, by one that is taken", x.may(0, 0), 5);
    }

    private static void mayOver() {
        ArchTrades x = Texts.with("tide 0 9 10 11 20 0 0 0 0 0 0 0;arch 0 1 10 0;arch 1 0 9 0;arch 2 4 20 0;"
            + "boat cart 20 1 0 0 0;boat wain 20 1 0 0 0;boat cart 0 1 1 0 0;boat wain 0 0 0 0 0;boat cog 0 0 1 0 0;");
        due("17 cart by OVER", x.may(0, 0), 6);
        due("17 tide as HIGH", x.may(0, 1), 6);
        due("17 tide above", x.may(0, 2), 4);
        due("17 wain: HIGH 10 and more", x.may(1, 0), 4);
        due("17 MIXED cart", x.may(2, 0), 4);
        due("17 EMPTY wain: HIGH 10 is enough", x.may(3, 2), 5);
        due("17 EMPTY wain, tide 11", x.may(3, 3), 4);
        due("17 no MAST needed", x.may(0, 4), 4);
        due("17 boat by UNDER", x.may(4, 0), 2);
    }

    private static void most() {
        ArchTrades x = Texts.with("tide 0 20 0 0 0 0 0 0 0 0 0 0;arch 0 0 10 1;boat cog 1 1 0 0 0;boat cog 1 2 0 0 0;"
            + "boat cart 1 3 0 0 0;boat cart 1 0 1 0 0;");
        due("18 below and above", x.most(0, 0, -1), 2);
        due("18 first", x.most(0, 0, 0), 0);
        due("18 not at all", x.most(0, 0, 1), NONE);
        due("18 above", x.most(0, 0, 2), 0);
        due("18 never", x.most(0, 0, 3), NONE);
        due("18 flood", x.most(1, 1, -1), 0);
        due("18 later", x.most(0, 2, 1), 12);
        due("18 three", x.most(0, 2, -1), 3);
        x.pass(0, 0);
        due("18 as if none had gone", x.most(0, 0, 1), 0);
        due("18 GONE", x.most(0, 0, 0), NONE);
        due("18 not GONE", x.most(0, 11, -1), 2);
        x.shut(0, 1);
        due("18 SHUT", x.most(0, 11, -1), 0);
        due("18 BAD a", x.most(-1, 0, -1), BAD);
        due("18 BAD b", x.most(0, 12, -1), BAD);
        due("18 BAD a above b", x.most(2, 1, -1), BAD);
        due("18 BAD k", x.most(0, 0, 4), BAD);
        due("18 BAD k -2", x.most(0, 0, -2), BAD);
        due("18 nothing changes", x.count(4), 2);
    }

    /** Boat 0 must leave its first place to boat 1, which has no other. */
    private static void mostFirstRow() {
        ArchTrades x = Texts.with(Texts.STILL + "arch 4 4 4 1;arch 0 4 9 1;arch 0 0 9 1;boat cog 3 1 0 0 0;boat cog 3 0 1 0 0;"
            + "boat cog 8 1 0 0 0;boat cart 3 1 0 0 0;");
        due("18 all", x.most(4, 4, -1), 4);
        due("18 leaves it", x.most(4, 4, 0), 25);
        due("18 the one place", x.most(4, 4, 1), 24);
        due("18 the next", x.most(4, 4, 2), 26);
        due("18 above", x.most(4, 4, 3), 24);
        due("18 two hours: first", x.most(4, 5, 0), 24);
        due("18 two hours: later", x.most(4, 5, 1), 30);
        due("18 two hours: second arch", x.most(4, 5, 2), 25);
        ArchTrades y = Texts.with(Texts.STILL + "arch 0 0 9 1;boat cog 0 0 1 0 0;boat cog 0 1 0 0 0;boat cog 0 2 0 0 0;");
        due("18 none for the first", y.most(11, 11, 0), NONE);
        due("18 the least BOAT goes", y.most(11, 11, 1), 66);
        due("18 the last not at all", y.most(11, 11, 2), NONE);
    }

    private static void anew() {
        ArchTrades x = Texts.with(Texts.STILL + "arch 1 3 9 1;arch 0 2 4 1;arch 2 0 4 1;boat cog 8 1 0 0 0;boat cog 3 0 0 1 0;"
            + "boat cart 0 1 0 0 0;");
        due("18 as it is", x.most(0, 0, -1), 2);
        due("19 greatest", x.anew(0, 0, -1), 3);
        due("19 first row", x.anew(0, 0, 0), 0);
        due("19 then", x.anew(0, 0, 1), 1);
        due("19 last", x.anew(0, 0, 2), 2);
        due("19 nothing changes", x.arch(0, 0), 1);
        due("19 OVER stays", x.arch(0, 1), 3);
        due("19 no act", x.count(4), 0);
        x.shut(0, 1);
        due("19 SHUT", x.anew(0, 0, -1), 2);
        due("19 a SHUT one has one, too", x.anew(0, 0, 0), 0);
        due("19 BAD k", x.anew(0, 0, 3), BAD);
        due("19 BAD k -2", x.anew(0, 0, -2), BAD);
        due("19 BAD a above b", x.anew(1, 0, 0), BAD);
        due("19 BAD a", x.anew(-1, 0, 0), BAD);
        due("19 BAD b", x.anew(0, 12, 0), BAD);
        x.undo();
        x.lend(1, 0, 3);
        due("19 as it is lent", x.anew(0, 0, -1), 2);
        due("19 lent row", x.anew(0, 0, 0) * 100 + x.anew(0, 0, 1) * 10 + x.anew(0, 0, 2), 123);
        x.undo();
        x.lend(0, 0, 4);
        due("19 nobody's", x.anew(0, 0, 0) * 100 + x.anew(0, 0, 1) * 10 + x.anew(0, 0, 2), 24);
    }

    private static void cut() {
        ArchTrades x = Texts.with(Texts.STILL + "arch 0 4 10 1;arch 1 4 20 1;arch 1 4 30 1;arch 3 4 30 1;");
        due("20 2 has none", x.cut(0, 0), 4);
        due("20 just", x.cut(5, 5), 4);
        due("20 0 is cut", x.cut(5, 6), 5);
        due("20 by the other arch of 1", x.cut(20, 10), 5);
        due("20 all", x.cut(30, 1), 15);
        due("20 tide 30", x.cut(30, 0), 5);
        x.shut(3, 1);
        due("20 SHUT", x.cut(0, 0), 12);
        x.lend(2, 0, 4);
        due("20 nobody's", x.cut(30, 0), 0);
        due("20 nobody's too low", x.cut(11, 20), 15);
        due("20 BAD tide", x.cut(31, 0), BAD);
        due("20 BAD tide -1", x.cut(-1, 0), BAD);
        due("20 BAD mast", x.cut(0, 21), BAD);
        due("20 BAD mast -1", x.cut(0, -1), BAD);
    }

    private static void weighed() {
        // 3 + 7 is as much as two of 1; 3 + 11 as two of 2
        ArchTrades x = Texts.with(Texts.STILL + "arch 0 4 10 1;boat cog 0 1 0 1 0;boat cart 0 1 0 0 1;boat raft 0 0 0 0 0;"
            + "boat wain 0 0 0 0 9;");
        x.row(5, 2, 6);
        x.set(5, 0, 1);
        x.set(5, 1, 2);
        x.set(5, 2, 3);
        x.set(5, 3, 3);
        due("21 as declared", x.weighed(5, 0), 0);
        due("21 from 1 on", x.weighed(5, 1), 11);
        due("21 from 2 on", x.weighed(5, 2), 11);
        x.set(5, 3, 2);
        due("21 one", x.weighed(5, 0), 8);
        x.set(5, 0, 0);
        due("21 two: more", x.weighed(5, 0), 9);
        x.set(5, 0, 2);
        due("21 two: less", x.weighed(5, 0), 9);
        x.pass(2, 0);
        due("21 of one GONE, too", x.weighed(5, 0), 9);
        x.split(0, 0);
        due("21 as many as BOATS", x.weighed(5, 0), 8);
    }

    private static void weighedFindings() {
        ArchTrades x = Texts.with(Texts.STILL + "arch 0 4 10 1;boat cog 0 1 0 1 0;boat cart 0 1 0 0 1;");
        due("21 BAD", x.weighed(8, 0), BAD);
        due("21 BAD -1", x.weighed(-1, 0), BAD);
        due("21 NULL", x.weighed(0, -1), NULL);
        x.row(0, 1, 3);
        due("21 PLACE 2", x.weighed(0, 2), PLACE);
        due("21 status", x.status(), 2);
        due("21 PLACE -1", x.weighed(0, -1), PLACE);
        due("21 PLACE wraps", x.weighed(0, GREATEST), PLACE);
        x.set(0, 2, 4);
        due("21 no TRADE", x.weighed(0, 1), BAD);
        due("21 status of set", x.status(), 0);
        due("21 no TRADE, but PLACE", x.weighed(0, 2), PLACE);
        due("21 still BAD", x.weighed(0, 1), BAD);
        due("21 status stays", x.status(), 2);
        due("21 not looked at", x.weighed(0, 0), 3);
        due("21 status 0", x.status(), 0);
        x.set(0, 0, -1);
        due("21 no TRADE -1", x.weighed(0, 0), BAD);
        x.row(0, 0, 1);
        due("21 fewer than BOATS", x.weighed(0, 0), PLACE);
    }

    private static void image() {
        ArchTrades x = common();
        due("22 kept", x.image(0), 1);
        due("22 BAD", x.image(2), BAD);
        due("22 BAD -1", x.image(-1), BAD);
        x.pass(0, 0);
        x.hour();
        due("22 another", x.image(1), 1);
        due("22 acts stay", x.count(4), 2);
        x.restore(0);
        due("22 the first", x.count(3), 0);
        x.restore(1);
        due("22 the second", x.count(3), 1);
        x.hour();
        due("22 in place", x.image(0), 1);
        x.undo();
        x.restore(0);
        due("22 as kept last", x.count(3), 2);
        due("22 BAD ahead of STATE", new ArchTrades().image(2), BAD);
    }

    private static void restore() {
        ArchTrades x = common();
        due("23 none", x.restore(0), STATE);
        due("23 BAD", x.restore(2), BAD);
        due("23 BAD -1", x.restore(-1), BAD);
        x.pass(0, 0);
        x.shut(1, 1);
        x.lend(2, 0, 3);
        x.split(2, 1);
        x.image(1);
        x.hour();
        x.shut(1, 0);
        Texts.bridge(x, Texts.STILL + "arch 0 0 1 0;");
        x.shut(0, 1);
        due("23 restored", x.restore(1), 1);
        due("23 no ACT", x.count(4), 0);
        due("23 no undo", x.undo(), STATE);
        due("23 ARCHES", x.count(1), 3);
        due("23 BOATS", x.count(2), 6);
        due("23 HOUR", x.count(3), 0);
        due("23 GONE", x.count(5), 1);
        due("23 TOLL", x.count(6), 6);
        due("23 SHUT", x.arch(1, 4), 1);
        due("23 lent", x.arch(2, 0), 3);
        due("23 below", x.arch(0, 5), 1);
        due("23 the tide of then", x.may(0, 5), 0);
        due("23 split", x.boat(5, 1), 2);
        x.shut(0, 1);
        x.restore(1);
        due("23 the IMAGE stays", x.arch(0, 4), 0);
        due("23 the other is none", x.restore(0), STATE);
        x.row(0, 0, 3);
        x.feed(32, 1);
        x.restore(1);
        due("23 the BRIDGE alone", x.count(0) * 10 + x.count(7), 11);
    }

    private static void kind() {
        ArchTrades x = common();
        for (int boat = 0; boat < 5; boat++) {
            due("24 kind", x.kind(boat), boat + 1);
        }
        due("24 BAD", x.kind(5), BAD);
        due("24 BAD -1", x.kind(-1), BAD);
    }

    private static void as() {
        ArchTrades x = common();
        String[] is = {"110000", "111000", "110100", "100010", "100011"};
        for (int boat = 0; boat < 5; boat++) {
            for (int kind = 0; kind < 6; kind++) {
                boolean fits = is[boat].charAt(kind) == '1';
                due("25 as(" + boat + ", " + kind + ")", x.as(boat, kind), fits ? boat : KIND);
                due("25 status", x.status(), fits ? 0 : 3);
            }
        }
        due("25 BAD", x.as(5, 0), BAD);
        due("25 BAD -1", x.as(-1, 0), BAD);
        due("25 BAD kind", x.as(0, 6), BAD);
        due("25 BAD kind -1", x.as(0, -1), BAD);
    }

    private static void asked(ArchTrades x, int boat, int what, int answer, int... bodies) {
        String call = "26 ask(" + boat + ", " + what + ")";
        due(call, x.ask(boat, what), answer);
        for (int i = 0; i < bodies.length; i++) {
            due("27 trace(" + i + ") of " + call, x.trace(i), bodies[i]);
        }
        due("27 no more of " + call, x.trace(bodies.length), NONE);
    }

    private static void ask() {
        ArchTrades x = common();
        asked(x, 0, 0, 3 + 5, 11, 10, 21, 20);
        asked(x, 0, 1, 5, 21, 20);
        asked(x, 1, 0, 4 + 1 + 9 - 1000, 11, 10, 22, 21, 20);
        asked(x, 1, 1, 1 + 9 - 1000, 22, 21, 20);
        asked(x, 2, 0, -(4 + 2 * (2 + 12)), 12, 11, 10, 24, 21, 20);
        asked(x, 2, 1, 2 * (2 + 12), 24, 21, 20);
        asked(x, 3, 0, 6 - 100, 13, 10);
        asked(x, 3, 1, 3 - (6 - 100), 23, 20, 13, 10);
        asked(x, 4, 0, 2 * (5 - 100), 14, 13, 10);
        asked(x, 4, 1, 4 - 2 * (5 - 100), 23, 20, 14, 13, 10);
        due("26 BAD what", x.ask(0, 2), BAD);
        due("26 BAD what -1", x.ask(0, -1), BAD);
        due("26 BAD boat", x.ask(5, 0), BAD);
        due("26 BAD boat -1", x.ask(-1, 0), BAD);
        due("27 refused: THE TRACE stays", x.trace(4), 10);
    }

    private static void trace() {
        ArchTrades x = common();
        due("27 none", x.trace(0), NONE);
        x.ask(0, 1);
        due("27 first", x.trace(0), 21);
        due("27 none at 2", x.trace(2), NONE);
        due("27 none at -1", x.trace(-1), NONE);
        due("27 none at 16", x.trace(16), NONE);
        due("27 none far", x.trace(GREATEST), NONE);
        due("27 none far below", x.trace(LEAST), NONE);
        Texts.bridge(x, Texts.STILL + "arch 0 0 1 0;");
        due("27 it stays", x.trace(1), 20);
    }

    private static void count() {
        ArchTrades x = common();
        x.row(0, 0, 1);
        x.row(7, 0, 0);
        x.row(7, 1, 0);
        x.feed(0, 5);
        x.pass(0, 0);
        x.hour();
        x.pass(4, 2);
        int[] want = {2, 3, 5, 1, 3, 2, 11, 5};
        for (int what = 0; what < 8; what++) {
            due("28 count(" + what + ")", x.count(what), want[what]);
        }
        due("28 BAD", x.count(8), BAD);
        due("28 BAD -1", x.count(-1), BAD);
    }

    private static void status() {
        ArchTrades x = common();
        x.set(0, 0, 0);
        due("29 NULL", x.status(), 1);
        due("29 again", x.status(), 1);
        x.row(0, 0, 41);
        due("29 BAD leaves it", x.status(), 1);
        x.row(0, 0, -1);
        due("29 SIZE", x.status(), 4);
        x.as(0, 9);
        due("29 BAD as leaves it", x.status(), 4);
        x.hour();
        due("29 a call without a ROW leaves it", x.status(), 4);
        x.row(0, 0, 3);
        due("29 none", x.status(), 0);
        x.row(1, 1, 3);
        x.copy(0, 0, 1, 0, 1);
        due("29 STORE", x.status(), 5);
        x.set(0, 3, 0);
        due("29 PLACE", x.status(), 2);
        x.as(0, 2);
        due("29 KIND", x.status(), 3);
        x.as(0, 1);
        due("29 as it is", x.status(), 0);
        x.drop(5);
        due("29 NULL of drop", x.status(), 1);
        x.drop(1);
        due("29 none of drop", x.status(), 0);
        new ArchTrades().drop(0);
        due("29 another object's", x.status(), 0);
        ArchTrades y = new ArchTrades();
        y.drop(0);
        y.weighed(0, 0);
        due("29 STATE leaves it", y.status(), 1);
    }

    /** No call may throw, for any numbers, with a bridge or without. */
    private static void wildNumbers() {
        for (int turn = 0; turn < 2; turn++) {
            for (int v : WILD) {
                for (int w : WILD) {
                    wildCalls(turn == 0 ? new ArchTrades() : common(), v, w);
                }
            }
        }
    }

    private static void wildCalls(ArchTrades x, int v, int w) {
        boolean stands = x.count(1) > 0;
        x.row(0, 0, 5);
        due("row", x.row(v, w, w), BAD);
        due("set", x.set(v, w, w), BAD);
        due("set at", x.set(0, v, w), PLACE);
        due("copy", x.copy(v, w, 0, w, w), BAD);
        due("copy at", x.copy(0, v, 0, w, v), PLACE);
        due("drop", x.drop(v), BAD);
        due("feed", x.feed(v, w), BAD);
        due("lend", x.lend(v, w, w), BAD);
        due("lend to", x.lend(0, 0, v), BAD);
        due("shut", x.shut(0, v), BAD);
        due("pass", x.pass(v, w), BAD);
        due("split", x.split(0, v), BAD);
        due("arch", x.arch(v, w), BAD);
        due("boat", x.boat(0, v), BAD);
        due("may", x.may(0, v), BAD);
        due("most", x.most(v, w, -1), stands ? BAD : STATE);
        due("most of", x.most(0, 0, v), !stands ? STATE : v == -1 ? 5 : BAD);
        due("anew", x.anew(v, w, -1), stands ? BAD : STATE);
        due("anew of", x.anew(0, 0, v), !stands ? STATE : v == -1 ? 5 : BAD);
        due("cut", x.cut(v, w), stands ? BAD : STATE);
        due("weighed", x.weighed(v, w), stands ? BAD : STATE);
        due("weighed at", x.weighed(0, v), stands ? PLACE : STATE);
        due("image", x.image(v), BAD);
        due("restore", x.restore(v), BAD);
        due("kind", x.kind(v), BAD);
        due("as", x.as(0, v), BAD);
        due("ask", x.ask(v, w), BAD);
        due("trace", x.trace(v), NONE);
        due("count", x.count(v), BAD);
    }
}
