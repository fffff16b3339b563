/** The boundary cases of what is asked: promises 24 to 29, and what the terms say of KINDS and BODIES. */
public final class AskEdgesTest {
    private static final int NONE = -1000000, BAD = -1000001, STATE = -1000002, FULL = -1000003;
    private static final int NULL = -1000011, KIND = -1000013;
    private static final int LEAST = Integer.MIN_VALUE, GREATEST = Integer.MAX_VALUE;
    private static final String[] SORTS = {"barge", "cog", "raft", "cart", "wain"};
    private static final Sentences T = new Sentences("AskEdgesTest");

    private AskEdgesTest() {
    }

    public static void main(String[] args) {
        kinds();
        taken();
        families();
        sizes();
        marks();
        splitKinds();
        askWrong();
        traces();
        traceFirst();
        counts();
        countWrong();
        statusNone();
        statusStays();
        statusOfEach();
        T.end();
    }

    private static ArchTrades with(String rest) {
        return Texts.with(Texts.STILL + rest);
    }

    private static ArchTrades ofEach(int mast, String loads) {
        StringBuilder s = new StringBuilder("arch 4 4 30 1;");
        for (String sort : SORTS) {
            s.append("boat ").append(sort).append(' ').append(mast).append(' ').append(loads).append(';');
        }
        return with(s.toString());
    }

    private static void kinds() {
        T.says(24, "The KIND of a BOAT, as told (1 to 5). BAD");
        ArchTrades x = ofEach(0, "0 0 0 0");
        for (int boat = 0; boat < 5; boat++) {
            T.due(SORTS[boat], x.kind(boat), 1 + boat);
        }
        for (int wild : new int[] {LEAST, -1, 5, 6, GREATEST}) {
            T.due("kind(" + wild + ")", x.kind(wild), BAD);
        }
        x.pass(2, 0);
        T.due("of one GONE, too", x.kind(2), 3);
    }

    private static void taken() {
        T.says(25, "A BOAT is taken as one of a KIND (0 .. 5): its number. BAD; KIND: it is no such one");
        ArchTrades x = ofEach(0, "0 0 0 0");
        int[] is = {0b000011, 0b000111, 0b001011, 0b010001, 0b110001};
        for (int boat = 0; boat < 5; boat++) {
            for (int kind = 0; kind < 6; kind++) {
                boolean fits = (is[boat] >> kind & 1) == 1;
                T.due(SORTS[boat] + " as " + kind, x.as(boat, kind), fits ? boat : KIND);
                T.due("status", x.status(), fits ? 0 : 3);
            }
            for (int wild : new int[] {LEAST, -1, 6, 7, GREATEST}) {
                T.due("as " + wild, x.as(boat, wild), BAD);
            }
        }
        for (int wild : new int[] {LEAST, -1, 5, 6, GREATEST}) {
            T.due("BOAT " + wild, x.as(wild, 0), BAD);
            T.due("BOAT " + wild + ", no such KIND", x.as(wild, 9), BAD);
        }
    }

    private static void families() {
        T.says("KINDS of BOATS: 0 BOAT; 1 BARGE, a BOAT; 2 COG, a BARGE; 3 RAFT, a BARGE; 4 CART, a BOAT; 5 WAIN, a CART");
        ArchTrades x = ofEach(0, "0 0 0 0");
        for (int boat = 0; boat < 5; boat++) {
            T.due("all are BOATS", x.as(boat, 0), boat);
            T.due("all are what they are told as", x.as(boat, 1 + boat), boat);
        }
        T.due("a cog is a BARGE", x.as(1, 1), 1);
        T.due("a raft is a BARGE", x.as(2, 1), 2);
        T.due("a wain is a CART", x.as(4, 4), 4);
        T.due("a barge is no COG", x.as(0, 2), KIND);
        T.due("a cog is no RAFT", x.as(1, 3), KIND);
        T.due("a cart is no WAIN", x.as(3, 5), KIND);
        T.due("a cart is no BARGE", x.as(3, 1), KIND);
        T.says("(Of an ask the BODY told for the KIND begins, else that of the nearest KIND that it is, too, else the one that is lent; "
            + "SIZE, MARK within others are asked of the same BOAT anew.)");
        int[][] first = {{11, 21}, {11, 22}, {12, 24}, {13, 23}, {14, 23}};
        for (int boat = 0; boat < 5; boat++) {
            for (int what = 0; what < 2; what++) {
                x.ask(boat, what);
                T.due("what begins, of " + SORTS[boat], x.trace(0), first[boat][what]);
            }
        }
        x.ask(1, 0);
        T.due("MARK anew of a cog", x.trace(2), 22);
        x.ask(2, 0);
        T.due("MARK anew of a raft", x.trace(3), 24);
        x.ask(4, 1);
        T.due("SIZE anew of a wain", x.trace(2), 14);
    }

    private static void asked(ArchTrades x, int boat, int what, int answer, int... bodies) {
        T.due("ask(" + boat + ", " + what + ")", x.ask(boat, what), answer);
        for (int i = 0; i < 16; i++) {
            T.due("trace(" + i + ") of ask(" + boat + ", " + what + ")", x.trace(i), i < bodies.length ? bodies[i] : NONE);
        }
    }

    private static void sizes() {
        T.says("10 lent to all BOATS: all that it has. 11 of BARGES: what 10 gives, and MARK. 12 of RAFTS: 0 less what 11 gives. "
            + "13 of CARTS: what 10 gives, less 100. 14 of WAINS: what 13 gives, twice");
        for (int mast : new int[] {0, 1, 20}) {
            for (int each : new int[] {0, 1, 9}) {
                ArchTrades x = ofEach(mast, each + " " + each + " " + each + " " + each);
                int all = 4 * each;
                asked(x, 0, 0, all + mast, 11, 10, 21, 20);
                asked(x, 1, 0, all + 1 + mast - 1000, 11, 10, 22, 21, 20);
                asked(x, 2, 0, -all - 2 * (2 + mast), 12, 11, 10, 24, 21, 20);
                asked(x, 3, 0, all - 100, 13, 10);
                asked(x, 4, 0, 2 * (all - 100), 14, 13, 10);
            }
        }
    }

    private static void marks() {
        T.says("20 lent to all BOATS: its number. 21 of BARGES: what 20 gives, and MAST. 22 of COGS: what 21 gives, less 1000. "
            + "23 of CARTS: what 20 gives, less SIZE. 24 of RAFTS: what 21 gives, twice");
        for (int mast : new int[] {0, 1, 20}) {
            for (int each : new int[] {0, 9}) {
                ArchTrades x = ofEach(mast, "0 0 0 " + each);
                asked(x, 0, 1, mast, 21, 20);
                asked(x, 1, 1, 1 + mast - 1000, 22, 21, 20);
                asked(x, 2, 1, 2 * (2 + mast), 24, 21, 20);
                asked(x, 3, 1, 3 - (each - 100), 23, 20, 13, 10);
                asked(x, 4, 1, 4 - 2 * (each - 100), 23, 20, 14, 13, 10);
            }
        }
    }

    private static void splitKinds() {
        T.says(26, "An ASK (0, 1) of a BOAT");
        ArchTrades x = with("arch 4 4 30 1;boat barge 0 0 0 0 0;" + "boat cog 7 4 3 0 0;".repeat(4));
        T.due("a new BOAT", x.split(4, 0), 5);
        asked(x, 5, 0, 4 + 5 + 7 - 1000, 11, 10, 22, 21, 20);
        asked(x, 4, 0, 3 + 4 + 7 - 1000, 11, 10, 22, 21, 20);
        x.pass(5, 0);
        asked(x, 5, 1, 5 + 7 - 1000, 22, 21, 20);
        x.undo();
        x.undo();
        T.due("no such BOAT any more", x.ask(5, 0), BAD);
    }

    private static void askWrong() {
        T.says(26, "BAD. THE TRACE is empty ahead of it");
        ArchTrades x = ofEach(3, "1 2 0 0");
        x.ask(2, 0);
        for (int wild : new int[] {LEAST, -1, 5, 6, GREATEST}) {
            T.due("BOAT " + wild, x.ask(wild, 0), BAD);
        }
        for (int wild : new int[] {LEAST, -1, 2, 3, GREATEST}) {
            T.due("what " + wild, x.ask(0, wild), BAD);
        }
        T.due("THE TRACE stays", x.trace(5), 20);
        T.due("it ends there", x.trace(6), NONE);
        x.ask(3, 0);
        T.due("a shorter one", x.trace(1), 10);
        T.due("nothing of the one before", x.trace(2), NONE);
    }

    private static void traces() {
        T.says(27, "Number i of THE TRACE; NONE");
        ArchTrades x = ofEach(3, "1 2 0 0");
        for (int i : new int[] {LEAST, -1, 0, 1, 15, 16, 17, GREATEST}) {
            T.due("before an ASK, " + i, x.trace(i), NONE);
        }
        x.ask(2, 0);
        T.due("the first", x.trace(0), 12);
        T.due("the last", x.trace(5), 20);
        for (int i : new int[] {LEAST, -1, 6, 15, 16, 17, GREATEST}) {
            T.due("none at " + i, x.trace(i), NONE);
        }
        x.kind(2);
        x.as(2, 5);
        x.hour();
        x.restore(0);
        T.due("it stays till the next ASK", x.trace(0), 12);
    }

    private static void traceFirst() {
        T.says("each of which leaves its number in THE TRACE as it begins (the first 16)");
        ArchTrades x = ofEach(3, "1 2 0 0");
        for (int n = 0; n < 20; n++) {
            x.ask(2, 0);
        }
        T.due("no more than one ASK leaves", x.trace(6), NONE);
        T.due("as it begins", x.trace(0) * 100 + x.trace(1), 1211);
    }

    private static void counts() {
        T.says(28, "0 ROWS, 1 ARCHES, 2 BOATS, 3 the HOUR, 4 ACTS that can be undone, 5 BOATS that are GONE, 6 TOLL that was had, "
            + "7 bytes on the tape");
        ArchTrades x = with("arch 4 4 30 9;".repeat(6) + "boat cog 0 9 9 9 9;".repeat(6));
        for (int row = 0; row < 8; row++) {
            x.row(row, 0, row);
        }
        for (int boat = 0; boat < 6; boat++) {
            x.pass(boat, boat);
        }
        for (int hour = 0; hour < 13; hour++) {
            x.hour();
        }
        for (int n = 0; n < 9; n++) {
            x.shut(0, 1);
        }
        for (int n = 0; n < 64; n++) {
            x.feed(0, n < 62 ? 8 : 4);
        }
        int[] greatest = {8, 6, 6, 11, 24, 6, 6 * 9 * 36 * 2, 500};
        for (int what = 0; what < 8; what++) {
            T.due("count(" + what + ")", x.count(what), greatest[what]);
        }
        ArchTrades y = new ArchTrades();
        for (int what = 0; what < 8; what++) {
            T.due("at first, count(" + what + ")", y.count(what), 0);
        }
    }

    private static void countWrong() {
        T.says(28, "BAD");
        for (int wild : new int[] {LEAST, -1, 8, 9, GREATEST}) {
            T.due("count(" + wild + ")", ofEach(0, "0 0 0 0").count(wild), BAD);
            T.due("at first, count(" + wild + ")", new ArchTrades().count(wild), BAD);
        }
    }

    private static void statusNone() {
        T.says(29, "0: it had none, or there was none");
        ArchTrades x = new ArchTrades();
        T.due("there was none", x.status(), 0);
        x.row(8, 0, 0);
        T.due("refused ones alone", x.status(), 0);
        x.weighed(0, 0);
        T.due("a STATE alone", x.status(), 0);
        T.due("a finding", x.drop(0), NULL);
        T.due("its number", x.status(), 1);
        T.due("it stays", x.status(), 1);
        x.row(0, 0, 0);
        T.due("it had none", x.status(), 0);
    }

    private static void statusStays() {
        T.says(29, "Of the latest call with a ROW, or as(), that was not BAD, STATE, FULL: the number of its FINDING");
        ArchTrades x = ofEach(3, "1 2 0 0");
        x.drop(0);
        T.due("BAD row", x.row(0, 3, 0), BAD);
        T.due("BAD set", x.set(8, 0, 0), BAD);
        T.due("BAD copy", x.copy(0, 0, 8, 0, 0), BAD);
        T.due("BAD drop", x.drop(8), BAD);
        T.due("BAD weighed", x.weighed(8, 0), BAD);
        T.due("BAD as", x.as(0, 6), BAD);
        T.due("BAD as, no BOAT", x.as(5, 0), BAD);
        T.due("the finding ahead of them", x.status(), 1);
        x.hour();
        x.split(0, 0);
        x.pass(1, 0);
        x.undo();
        x.ask(0, 0);
        x.kind(0);
        x.count(0);
        x.image(0);
        x.restore(0);
        x.feed(0, 8);
        x.bridge();
        T.due("calls without a ROW", x.status(), 1);
        for (int n = 0; n < 63; n++) {
            x.feed(0, 8);
        }
        T.due("FULL", x.feed(0, 8), FULL);
        T.due("FULL leaves it", x.status(), 1);
        ArchTrades y = new ArchTrades();
        y.row(0, 0, -1);
        T.due("STATE", y.weighed(0, 0), STATE);
        T.due("STATE leaves it", y.status(), 4);
    }

    private static void statusOfEach() {
        T.says(29, "the number of its FINDING; 0: it had none");
        ArchTrades x = with("arch 4 4 30 1;boat cog 0 1 0 0 0;");
        x.row(0, 0, 4);
        x.row(1, 0, 4);
        x.row(2, 1, 4);
        int[] due = {4, 0, 1, 2, 0, 1, 1, 5, 2, 0, 1, 0, 1, 2, 0, 3, 0};
        for (int n = 0; n < due.length; n++) {
            each(x, n);
            T.due("status() behind call " + n, x.status(), due[n]);
        }
    }

    private static void each(ArchTrades x, int n) {
        switch (n) {
            case 0: x.row(0, 0, -1); break;
            case 1: x.row(3, 0, 4); break;
            case 2: x.set(7, 0, 0); break;
            case 3: x.set(0, 4, 0); break;
            case 4: x.set(0, 3, 0); break;
            case 5: x.copy(7, 0, 0, 0, 0); break;
            case 6: x.copy(0, 0, 7, 0, 0); break;
            case 7: x.copy(0, 0, 2, 0, 0); break;
            case 8: x.copy(0, 0, 1, 0, 5); break;
            case 9: x.copy(0, 0, 1, 0, 4); break;
            case 10: x.drop(7); break;
            case 11: x.drop(3); break;
            case 12: x.weighed(3, 0); break;
            case 13: x.weighed(0, 4); break;
            case 14: x.weighed(0, 3); break;
            case 15: x.as(0, 3); break;
            default: x.as(0, 0); break;
        }
    }
}
