/** The boundary cases of the ACTS and of what is seen of them: promises 9 to 16, and what the terms say of ACTS. */
public final class ActEdgesTest {
    private static final int BAD = -1000001, STATE = -1000002, FULL = -1000003;
    private static final int LEAST = Integer.MIN_VALUE, GREATEST = Integer.MAX_VALUE;
    private static final Sentences T = new Sentences("ActEdgesTest");

    private ActEdgesTest() {
    }

    public static void main(String[] args) {
        noBridge();
        lends();
        lendsWrong();
        shuts();
        shutsWrong();
        passWrong();
        passGone();
        passMayNot();
        passTaken();
        tolls();
        goes();
        splits();
        splitStates();
        splitFull();
        hours();
        undoNone();
        undoEach();
        undoLatestFirst();
        keepsTwentyFour();
        forgetsTheOldest();
        forgetsEachSort();
        wrapsAround();
        archWhats();
        boatWhats();
        porters();
        T.end();
    }

    private static ArchTrades with(String rest) {
        return Texts.with(Texts.STILL + rest);
    }

    /** 2 arches, a boat below and one above, each MIXED. */
    private static ArchTrades pair() {
        return with("arch 4 4 20 1;arch 0 1 20 2;boat cog 5 1 2 0 0;boat cart 5 0 2 3 0;");
    }

    private static void noBridge() {
        T.says(1, "No BRIDGE");
        ArchTrades x = new ArchTrades();
        T.due("lend", x.lend(0, 0, 0), BAD);
        T.due("shut", x.shut(0, 0), BAD);
        T.due("pass", x.pass(0, 0), BAD);
        T.due("split", x.split(0, 0), BAD);
        T.due("hour", x.hour(), STATE);
        T.due("undo", x.undo(), STATE);
        T.due("arch", x.arch(0, 0), BAD);
        T.due("boat", x.boat(0, 0), BAD);
        T.due("may", x.may(0, 0), BAD);
        T.due("most", x.most(0, 0, -1), STATE);
        T.due("anew", x.anew(0, 0, -1), STATE);
        T.due("cut", x.cut(0, 0), STATE);
        T.due("image", x.image(0), STATE);
        T.due("restore", x.restore(0), STATE);
        T.due("kind", x.kind(0), BAD);
        T.due("as", x.as(0, 0), BAD);
        T.due("ask", x.ask(0, 0), BAD);
        x.row(0, 0, 9);
        T.due("weighed", x.weighed(0, 0), STATE);
        for (int what = 1; what < 8; what++) {
            T.due("count(" + what + ")", x.count(what), 0);
        }
    }

    private static void lends() {
        T.says(9, "A charter (0 UNDER, 1 OVER) of an ARCH is LENT to a TRADE (4: nobody's): whose it was");
        ArchTrades x = with("arch 0 0 20 1;".repeat(6));
        for (int arch = 0; arch < 6; arch++) {
            for (int which = 0; which < 2; which++) {
                int was = 0;
                for (int trade : new int[] {4, 3, 2, 1, 0, 0, 4}) {
                    T.due("lend(" + arch + ", " + which + ", " + trade + ")", x.lend(arch, which, trade), was);
                    T.due("whose it is", x.arch(arch, which), trade);
                    T.due("the other charter", x.arch(arch, 1 - which), which == 0 ? 0 : 4);
                    was = trade;
                }
            }
        }
        T.due("all ARCHES", x.arch(0, 0) * 10 + x.arch(5, 1), 44);
        T.says("a charter is LENT to another TRADE (or 4)");
        ArchTrades y = with("arch 0 1 20 1;boat cog 0 0 1 0 0;boat cog 0 0 1 1 0;boat cart 0 1 0 0 0;");
        T.due("not by TRADE 0's", y.pass(0, 0), STATE);
        y.lend(0, 0, 1);
        T.due("by its own", y.may(0, 0) * 10 + y.may(1, 0), 10);
        y.lend(0, 0, 4);
        T.due("by nobody's", y.may(0, 0) * 10 + y.may(1, 0), 11);
        T.due("above is not LENT", y.may(2, 0), 0);
        y.lend(0, 1, 0);
        T.due("above is LENT", y.may(2, 0), 1);
        y.lend(0, 1, 0);
        T.due("to whose it is: an ACT, too", y.count(4), 4);
    }

    private static void lendsWrong() {
        T.says(9, "BAD");
        ArchTrades x = pair();
        for (int wild : new int[] {LEAST, -1, 2, 3, 5, 6, GREATEST}) {
            T.due("arch " + wild, x.lend(wild, 0, 0), BAD);
        }
        for (int wild : new int[] {LEAST, -1, 2, 3, GREATEST}) {
            T.due("which " + wild, x.lend(0, wild, 0), BAD);
        }
        for (int wild : new int[] {LEAST, -1, 5, 6, GREATEST}) {
            T.due("trade " + wild, x.lend(0, 0, wild), BAD);
            T.due("trade " + wild + " above", x.lend(1, 1, wild), BAD);
        }
        T.due("no ACT", x.count(4), 0);
        T.due("all stays", x.arch(0, 0) * 1000 + x.arch(0, 1) * 100 + x.arch(1, 0) * 10 + x.arch(1, 1), 4401);
    }

    private static void shuts() {
        T.says(10, "An ARCH is SHUT (1) or not (0): how it was");
        ArchTrades x = with("arch 0 0 20 1;".repeat(6));
        for (int arch = 0; arch < 6; arch++) {
            int was = 0;
            for (int is : new int[] {0, 1, 1, 0, 0, 1}) {
                T.due("shut(" + arch + ", " + is + ")", x.shut(arch, is), was);
                T.due("how it is", x.arch(arch, 4), is);
                was = is;
            }
        }
        for (int arch = 0; arch < 6; arch++) {
            T.due("all are SHUT, " + arch, x.arch(arch, 4), 1);
        }
    }

    private static void shutsWrong() {
        T.says(10, "BAD");
        ArchTrades x = pair();
        for (int wild : new int[] {LEAST, -1, 2, 5, 6, 32, GREATEST}) {
            T.due("arch " + wild, x.shut(wild, 1), BAD);
        }
        for (int wild : new int[] {LEAST, -1, 2, 3, GREATEST}) {
            T.due("is " + wild, x.shut(0, wild), BAD);
        }
        T.due("no ACT", x.count(4), 0);
        T.due("all stays", x.arch(0, 4) + x.arch(1, 4), 0);
    }

    private static void passWrong() {
        T.says(11, "BAD; STATE: it is GONE");
        ArchTrades x = pair();
        for (int wild : new int[] {LEAST, -1, 2, 5, 6, 32, GREATEST}) {
            T.due("boat " + wild, x.pass(wild, 0), BAD);
            T.due("arch " + wild, x.pass(0, wild), BAD);
            T.due("both " + wild, x.pass(wild, wild), BAD);
        }
        T.due("none GONE", x.count(5), 0);
        x.pass(0, 0);
        T.due("BAD ahead of STATE", x.pass(0, 2), BAD);
        T.due("BAD ahead of STATE, -1", x.pass(0, -1), BAD);
        T.due("STATE", x.pass(0, 0), STATE);
    }

    private static void passGone() {
        T.says(11, "it is GONE");
        ArchTrades x = with("arch 4 4 20 1;".repeat(6) + "boat cog 5 1 0 0 0;boat wain 5 0 2 0 0;");
        T.due("below", x.pass(0, 3), 1);
        T.due("above", x.pass(1, 4), 2);
        for (int arch = 0; arch < 6; arch++) {
            T.due("below again by " + arch, x.pass(0, arch), STATE);
            T.due("above again by " + arch, x.pass(1, arch), STATE);
        }
        x.hour();
        T.due("in the next HOUR", x.pass(0, 0), STATE);
        x.undo();
        x.undo();
        T.due("not any more", x.pass(1, 0), 2);
        T.due("TOLL once each", x.count(6), 3);
    }

    private static void passMayNot() {
        T.says(11, "may not, or one went there in this HOUR (below, above, as it goes)");
        ArchTrades x = Texts.with("tide 0 15 16 20 20 0 0 0 0 0 0 0;arch 0 1 20 1;arch 1 0 9 1;boat cog 5 1 0 0 0;boat wain 0 1 0 0 0;"
            + "boat cart 0 1 0 0 0;");
        T.due("not its charter UNDER", x.pass(0, 1), STATE);
        T.due("not its charter OVER", x.pass(2, 0), STATE);
        T.due("a wain over HIGH 9", x.pass(1, 1), STATE);
        x.shut(0, 1);
        T.due("SHUT", x.pass(0, 0), STATE);
        x.undo();
        x.hour();
        T.due("a cart, tide 15 over HIGH 9", x.pass(2, 1), STATE);
        x.hour();
        T.due("HIGH 20, tide 16, MAST 5", x.pass(0, 0), STATE);
        x.undo();
        T.due("HIGH 20, tide 15, MAST 5", x.pass(0, 0), 1);
        T.due("one GONE", x.count(5), 1);
    }

    private static void passTaken() {
        T.says("An ARCH lets by one BOAT below and one above in each HOUR");
        ArchTrades x = with("arch 4 4 20 1;arch 4 4 20 1;boat cog 0 1 0 0 0;boat raft 0 1 0 0 0;boat barge 0 1 0 0 0;boat cart 0 1 0 0 0;"
            + "boat wain 0 1 0 0 0;boat wain 0 1 0 0 0;");
        T.due("below", x.pass(0, 0), 1);
        T.due("a second below", x.pass(1, 0), STATE);
        T.due("above beside", x.pass(3, 0), 1);
        T.due("a second above", x.pass(4, 0), STATE);
        T.due("below another ARCH", x.pass(1, 1), 1);
        T.due("above another ARCH", x.pass(4, 1), 1);
        T.due("a third below", x.pass(2, 1), STATE);
        T.due("the next HOUR", x.hour(), 1);
        T.due("below then", x.pass(2, 0), 1);
        T.due("above then", x.pass(5, 0), 1);
        x.undo();
        x.undo();
        x.undo();
        T.due("back in the HOUR before", x.count(3), 0);
        T.due("taken as it was, below", x.pass(2, 0), STATE);
        T.due("taken as it was, above", x.pass(5, 1), STATE);
    }

    private static void tolls() {
        T.says("TOLL: that of the ARCH times all that it has, of a MIXED one twice");
        int[][] loads = {{0, 0, 0, 0}, {1, 0, 0, 0}, {0, 0, 0, 9}, {1, 1, 0, 0}, {9, 9, 9, 9}, {0, 9, 0, 1}};
        int[] all = {0, 1, 9, 2, 36, 10};
        for (int toll : new int[] {0, 1, 9}) {
            for (int i = 0; i < loads.length; i++) {
                for (String sort : new String[] {"barge", "wain"}) {
                    ArchTrades x = with("arch 4 4 20 " + toll + ";boat " + sort + " 0 " + loads[i][0] + " " + loads[i][1] + " "
                        + loads[i][2] + " " + loads[i][3] + ";");
                    int due = toll * all[i] * (i < 3 ? 1 : 2);
                    T.due("the TOLL", x.pass(0, 0), due);
                    T.due("it is had", x.count(6), due);
                    T.due("undone", x.undo(), 0);
                    T.due("it is not had", x.count(6), 0);
                }
            }
        }
        ArchTrades y = with("arch 4 4 20 3;boat cog 0 1 4 0 0;");
        y.split(0, 1);
        T.due("split, once each", y.pass(0, 0), 3);
        y.hour();
        T.due("split, once each", y.pass(1, 0), 12);
        T.due("all that was had", y.count(6), 15);
    }

    private static void goes() {
        T.says("a BOAT GOES by an ARCH in the HOUR that it is (it is GONE, its TOLL is had)");
        ArchTrades x = Texts.with("tide 20 0 20 20 20 20 20 20 20 20 20 0;arch 4 4 9 3;boat cog 9 1 0 0 0;boat cog 9 1 1 0 0;");
        T.due("in HOUR 0", x.pass(0, 0), STATE);
        x.hour();
        T.due("in HOUR 1", x.pass(0, 0), 3);
        T.due("GONE", x.boat(0, 5) * 10 + x.count(5), 11);
        T.due("had", x.count(6), 3);
        for (int hour = 2; hour <= 11; hour++) {
            T.due("in another HOUR", x.pass(1, 0), STATE);
            x.hour();
        }
        T.says(11, "A BOAT GOES by an ARCH: the TOLL");
        T.due("in HOUR 11", x.pass(1, 0), 12);
        T.due("had", x.count(6), 15);
        T.due("GONE", x.count(5), 2);
    }

    private static void splits() {
        T.says(12, "All of a TRADE that a BOAT has comes into a new BOAT: its number");
        ArchTrades w = with("arch 4 4 20 1;boat cog 17 9 1 1 1;");
        for (int trade = 0; trade < 3; trade++) {
            T.due("split(0, " + trade + ")", w.split(0, trade), 1 + trade);
            T.due("none of it is left", w.boat(0, trade), 0);
            T.due("all of it came", w.boat(1 + trade, trade), trade == 0 ? 9 : 1);
        }
        T.due("the last TRADE stays", w.split(0, 3), STATE);
        T.says("of one TRADE all comes into a new BOAT of its SORT and MAST");
        ArchTrades x = with("arch 4 4 20 1;boat wain 17 9 1 0 2;");
        T.due("its number", x.split(0, 0), 1);
        int[][] want = {{0, 1, 0, 2, 17, 0, 1, 1}, {9, 0, 0, 0, 17, 0, 0, 0}};
        for (int boat = 0; boat < 2; boat++) {
            for (int what = 0; what < 8; what++) {
                T.due("boat(" + boat + ", " + what + ")", x.boat(boat, what), want[boat][what]);
            }
            T.due("kind(" + boat + ")", x.kind(boat), 5);
        }
        T.due("the rest, down to one TRADE", x.split(0, 3), 2);
        T.due("not MIXED any more", x.boat(0, 6), 0);
        T.due("not SPLIT any more", x.split(0, 1), STATE);
        T.due("three", x.count(2), 3);
        T.due("undone", x.undo() + x.undo(), 1);
        T.due("one", x.count(2), 1);
        T.due("no such BOAT", x.kind(1), BAD);
        T.due("all in it", x.boat(0, 0) * 1000 + x.boat(0, 1) * 100 + x.boat(0, 2) * 10 + x.boat(0, 3), 9102);
        x.hour();
        T.due("its number again", x.split(0, 1), 1);
        T.due("what the undone one had is not in it", x.boat(1, 0), 0);
        ArchTrades y = pair();
        y.pass(1, 0);
        T.due("of one that is not GONE", y.split(0, 0), 2);
        T.due("the new one is not GONE", y.boat(2, 5), 0);
    }

    private static void splitStates() {
        T.says(12, "BAD; STATE: it is GONE, has none of that, or nothing else; FULL: 6 BOATS");
        ArchTrades x = with("arch 4 4 20 1;boat cog 5 1 2 0 0;boat cart 5 0 2 0 0;boat raft 0 0 0 0 0;");
        for (int wild : new int[] {LEAST, -1, 3, 5, 6, 32, GREATEST}) {
            T.due("boat " + wild, x.split(wild, 0), BAD);
        }
        for (int wild : new int[] {LEAST, -1, 4, 5, GREATEST}) {
            T.due("trade " + wild, x.split(0, wild), BAD);
        }
        T.due("none of that", x.split(0, 2), STATE);
        T.due("none of that", x.split(0, 3), STATE);
        T.due("nothing else", x.split(1, 1), STATE);
        T.due("none of that, nothing else", x.split(1, 0), STATE);
        T.due("nothing at all", x.split(2, 0), STATE);
        x.pass(0, 0);
        T.due("GONE", x.split(0, 0), STATE);
        T.due("GONE, BAD ahead", x.split(0, 4), BAD);
        T.due("three", x.count(2), 3);
        T.due("one ACT", x.count(4), 1);
        x.undo();
        T.due("not GONE any more", x.split(0, 0), 3);
    }

    private static void splitFull() {
        T.says(12, "FULL: 6 BOATS");
        ArchTrades x = with("arch 4 4 20 1;" + "boat cog 5 1 2 0 0;".repeat(4) + "boat raft 5 3 0 0 0;");
        T.due("the sixth", x.split(0, 1), 5);
        T.due("a seventh", x.split(1, 1), FULL);
        T.due("all stays", x.boat(1, 1), 2);
        T.due("six", x.count(2), 6);
        T.due("one ACT", x.count(4), 1);
        T.due("BAD ahead of FULL", x.split(1, 4), BAD);
        T.due("BAD ahead of FULL, no BOAT 6", x.split(6, 1), BAD);
        T.due("STATE ahead of FULL: none of that", x.split(1, 3), STATE);
        T.due("STATE ahead of FULL: nothing else", x.split(4, 0), STATE);
        x.pass(1, 0);
        T.due("STATE ahead of FULL: GONE", x.split(1, 0), STATE);
        x.undo();
        x.undo();
        T.due("room again", x.split(1, 0), 5);
        T.due("told as six", with("arch 4 4 20 1;" + "boat cog 5 1 2 0 0;".repeat(6)).split(5, 1), FULL);
    }

    private static void hours() {
        T.says("the next HOUR begins (11 is the last)");
        ArchTrades x = with("arch 4 4 20 1;");
        for (int hour = 1; hour <= 11; hour++) {
            T.due("hour()", x.hour(), hour);
            T.due("count(3)", x.count(3), hour);
        }
        T.says(13, "The next HOUR: its number");
        ArchTrades z = with("arch 4 4 20 1;");
        T.due("HOUR 0 at first", z.count(3), 0);
        T.due("the first", z.hour(), 1);
        T.says(13, "STATE: no BRIDGE; FULL: it is HOUR 11");
        T.due("hour() in HOUR 11", x.hour(), FULL);
        T.due("again", x.hour(), FULL);
        T.due("HOUR 11 stays", x.count(3), 11);
        T.due("no ACT more", x.count(4), 11);
        T.due("undone", x.undo(), 10);
        T.due("HOUR 10", x.count(3), 10);
        T.due("HOUR 11 again", x.hour(), 11);
        T.due("FULL again", x.hour(), FULL);
        T.due("no BRIDGE", new ArchTrades().hour(), STATE);
        ArchTrades y = new ArchTrades();
        y.bridge();
        T.due("no BRIDGE behind a FAULT", y.hour(), STATE);
        Texts.bridge(y, Texts.STILL + "arch 4 4 20 1;");
        T.due("with a BRIDGE", y.hour(), 1);
    }

    private static void undoNone() {
        T.says(14, "STATE: none");
        ArchTrades x = pair();
        T.due("none yet", x.undo(), STATE);
        x.hour();
        T.due("one", x.undo(), 0);
        T.due("none any more", x.undo(), STATE);
        T.due("HOUR 0", x.count(3), 0);
        x.lend(2, 0, 0);
        x.shut(2, 0);
        x.pass(2, 0);
        x.split(0, 3);
        x.image(0);
        x.most(0, 11, -1);
        x.anew(0, 11, -1);
        T.due("what is refused, kept or foretold is no ACT", x.undo(), STATE);
        x.hour();
        x.restore(0);
        T.due("restored", x.undo(), STATE);
    }

    private static void undoEach() {
        T.says(14, "The latest ACT is undone: how many can be undone yet");
        ArchTrades x = pair();
        x.lend(1, 0, 4);
        T.due("lend", x.undo(), 0);
        T.due("UNDER", x.arch(1, 0), 0);
        x.lend(1, 1, 3);
        T.due("lend above", x.undo(), 0);
        T.due("OVER", x.arch(1, 1), 1);
        x.shut(1, 1);
        T.due("shut", x.undo(), 0);
        T.due("open", x.arch(1, 4), 0);
        x.pass(1, 0);
        T.due("pass above", x.undo(), 0);
        T.due("not GONE", x.boat(1, 5) + x.count(5), 0);
        T.due("none above", x.arch(0, 6), 0);
        T.due("no TOLL", x.count(6), 0);
        x.pass(0, 0);
        x.pass(1, 0);
        T.due("pass above alone", x.undo(), 1);
        T.due("below stays", x.arch(0, 5) * 10 + x.arch(0, 6), 10);
        T.due("its TOLL stays", x.count(6), 6);
        T.due("pass below", x.undo(), 0);
        T.due("none below", x.arch(0, 5), 0);
        x.split(1, 2);
        T.due("split", x.undo(), 0);
        T.due("two", x.count(2), 2);
        T.due("all in it", x.boat(1, 1) * 10 + x.boat(1, 2), 23);
        x.hour();
        T.due("hour", x.undo(), 0);
        T.due("HOUR 0", x.count(3), 0);
    }

    private static void undoLatestFirst() {
        T.says("each can be undone, the latest first");
        ArchTrades x = pair();
        x.lend(0, 0, 1);
        x.lend(0, 0, 2);
        x.lend(0, 0, 2);
        x.lend(0, 0, 3);
        int[] back = {2, 2, 1, 4};
        for (int i = 0; i < 4; i++) {
            T.due("undo", x.undo(), 3 - i);
            T.due("whose it is", x.arch(0, 0), back[i]);
        }
        x.split(0, 1);
        x.pass(2, 0);
        x.hour();
        x.pass(0, 1);
        T.due("the newest BOAT is GONE", x.boat(2, 5), 1);
        T.due("pass", x.undo(), 3);
        T.due("hour", x.undo(), 2);
        T.due("below in that HOUR", x.arch(0, 5), 1);
        T.due("pass of the newest", x.undo(), 1);
        T.due("not GONE", x.count(5), 0);
        T.due("split", x.undo(), 0);
        T.due("BOATS", x.count(2), 2);
    }

    private static void keepsTwentyFour() {
        T.says("24 at most are kept");
        ArchTrades x = pair();
        for (int n = 1; n <= 60; n++) {
            x.shut(0, n % 2);
            T.due("ACTS", x.count(4), Math.min(24, n));
        }
        T.due("the first undone", x.undo(), 23);
        T.due("one more ACT", x.shut(0, 0), 1);
        T.due("24 again", x.count(4), 24);
        x.lend(2, 0, 0);
        T.due("a refused one is not kept", x.count(4), 24);
        x.hour();
        T.due("24 yet", x.count(4), 24);
    }

    /** Charters from 0 on, one more at each ACT: what stays behind all that is undone tells what was forgotten. */
    private static void forgetsTheOldest() {
        T.says("of more the oldest is forgotten");
        for (int n = 1; n <= 52; n++) {
            ArchTrades x = with("arch 0 0 20 1;");
            for (int i = 1; i <= n; i++) {
                x.lend(0, 0, i % 5);
            }
            int kept = Math.min(24, n);
            for (int left = kept - 1; left >= 0; left--) {
                T.due("undo, of " + n, x.undo(), left);
            }
            T.due("no more, of " + n, x.undo(), STATE);
            T.due("as the oldest that is kept found it, of " + n, x.arch(0, 0), (n - kept) % 5);
        }
    }

    private static void forgetsEachSort() {
        T.says("of more the oldest is forgotten");
        ArchTrades x = pair();
        x.lend(1, 1, 3);
        x.shut(1, 1);
        x.pass(0, 0);
        x.split(1, 1);
        x.hour();
        for (int i = 0; i < 24; i++) {
            x.lend(0, 0, i % 4);
        }
        for (int left = 23; left >= 0; left--) {
            T.due("undo", x.undo(), left);
        }
        T.due("no more", x.undo(), STATE);
        T.due("whose it was", x.arch(0, 0), 4);
        T.due("LENT yet", x.arch(1, 1), 3);
        T.due("SHUT yet", x.arch(1, 4), 1);
        T.due("GONE yet", x.boat(0, 5), 1);
        T.due("TOLL yet", x.count(6), 6);
        T.due("SPLIT yet", x.count(2), 3);
        T.due("HOUR yet", x.count(3), 1);
    }

    /** Some ACTS more, some undone, over and over: each undone one is the latest. */
    private static void wrapsAround() {
        T.says("24 at most are kept, of more the oldest is forgotten; each can be undone, the latest first");
        ArchTrades x = with("arch 0 0 20 1;");
        int[] was = new int[400];
        int made = 0;
        int kept = 0;
        for (int turn = 0; turn < 9; turn++) {
            for (int i = 0; i < 12; i++) {
                was[made] = x.lend(0, 0, (3 * turn + i) % 5);
                made++;
                kept = Math.min(24, kept + 1);
            }
            for (int i = 0; i < 5 + turn % 3; i++) {
                made--;
                kept--;
                T.due("undo in turn " + turn, x.undo(), kept);
                T.due("whose it is", x.arch(0, 0), was[made]);
            }
        }
    }

    private static void archWhats() {
        T.says(15, "0 UNDER, 1 OVER, 2 HIGH, 3 TOLL, 4 whether SHUT (1, 0), 5 whether a BOAT went below in this HOUR, 6 above. BAD");
        ArchTrades x = with("arch 3 2 30 9;arch 0 1 1 0;boat wain 0 0 0 1 0;boat cog 1 1 0 0 0;");
        int[][] want = {{3, 2, 30, 9, 0, 0, 0}, {0, 1, 1, 0, 0, 0, 0}};
        for (int arch = 0; arch < 2; arch++) {
            for (int what = 0; what < 7; what++) {
                T.due("arch(" + arch + ", " + what + ")", x.arch(arch, what), want[arch][what]);
            }
            for (int wild : new int[] {LEAST, -1, 7, 8, GREATEST}) {
                T.due("what " + wild, x.arch(arch, wild), BAD);
            }
        }
        for (int wild : new int[] {LEAST, -1, 2, 5, 6, GREATEST}) {
            T.due("arch " + wild, x.arch(wild, 0), BAD);
        }
        x.pass(0, 0);
        x.pass(1, 1);
        T.due("above alone", x.arch(0, 5) * 10 + x.arch(0, 6), 1);
        T.due("below alone", x.arch(1, 5) * 10 + x.arch(1, 6), 10);
        x.shut(0, 1);
        T.due("SHUT, and one went yet", x.arch(0, 4) * 10 + x.arch(0, 6), 11);
        x.hour();
        T.due("not in this HOUR", x.arch(0, 6) + x.arch(1, 5), 0);
        T.due("SHUT yet", x.arch(0, 4), 1);
    }

    private static void boatWhats() {
        T.says(16, "0 to 3 what it has of TRADES, 4 MAST, 5 whether GONE (1, 0), 6 whether MIXED, 7 PORTERS (0: not MIXED). BAD");
        ArchTrades x = with("arch 4 4 30 9;boat wain 20 9 8 7 6;boat cog 0 0 0 0 0;");
        int[][] want = {{9, 8, 7, 6, 20, 0, 1, 21}, {0, 0, 0, 0, 0, 0, 0, 0}};
        for (int boat = 0; boat < 2; boat++) {
            for (int what = 0; what < 8; what++) {
                T.due("boat(" + boat + ", " + what + ")", x.boat(boat, what), want[boat][what]);
            }
            for (int wild : new int[] {LEAST, -1, 8, 9, GREATEST}) {
                T.due("what " + wild, x.boat(boat, wild), BAD);
            }
        }
        for (int wild : new int[] {LEAST, -1, 2, 5, 6, GREATEST}) {
            T.due("boat " + wild, x.boat(wild, 0), BAD);
        }
        x.pass(0, 0);
        T.due("GONE", x.boat(0, 5), 1);
        T.due("the other not", x.boat(1, 5), 0);
        T.due("of one GONE, too", x.boat(0, 7), 21);
    }

    private static void porters() {
        T.says("MIXED is a BOAT with loads of two TRADES and more; one without loads is EMPTY");
        for (int bits = 0; bits < 16; bits++) {
            ArchTrades x = loaded(bits, 1);
            T.due("loads of TRADES " + bits, x.boat(0, 6), Integer.bitCount(bits) >= 2 ? 1 : 0);
        }
        T.says("the least that must be taken out so that one TRADE alone is left in it");
        for (int bits = 0; bits < 16; bits++) {
            for (int each : new int[] {1, 9}) {
                T.due("all of " + each, loaded(bits, each).boat(0, 7), each * Math.max(0, Integer.bitCount(bits) - 1));
            }
        }
        T.due("the greatest first", with("arch 4 4 9 0;boat cog 0 9 1 2 3;").boat(0, 7), 6);
        T.due("the greatest last", with("arch 4 4 9 0;boat cog 0 1 2 3 9;").boat(0, 7), 6);
        T.due("two greatest", with("arch 4 4 9 0;boat cog 0 0 9 9 1;").boat(0, 7), 10);
        T.due("one TRADE alone", with("arch 4 4 9 0;boat cog 0 0 0 9 0;").boat(0, 7), 0);
    }

    private static ArchTrades loaded(int bits, int each) {
        StringBuilder s = new StringBuilder("arch 4 4 9 0;boat cog 0");
        for (int trade = 0; trade < 4; trade++) {
            s.append(' ').append((bits >> trade & 1) * each);
        }
        return with(s.append(';').toString());
    }
}
