import java.util.function.ToIntFunction;

/**
 * "What is refused, or found, changes nothing but status()": one object has a refused call, its twin has not,
 * and nothing that can be seen of the two may differ.
 */
public final class RefusalsTest {
    private static final int BAD = -1000001, STATE = -1000002, FULL = -1000003;
    private static final int NULL = -1000011, PLACE = -1000012, KIND = -1000013, SIZE = -1000014, STORE = -1000015;
    private static final int VIEWS = 6;
    private static final String READ_ROWS = "tide 0 0 0 0 0 0 0 0 0 0 0 0;arch 4 4 9 0;boat cog 0 0 1 0 0;";
    private static final Sentences T = new Sentences("RefusalsTest");

    private int story;

    private RefusalsTest() {
    }

    public static void main(String[] args) {
        T.says("What is refused, or found, changes nothing but status()");
        RefusalsTest test = new RefusalsTest();
        test.untold();
        test.midway();
        test.full();
        order();
        manyCalls();
        T.end();
    }

    private ArchTrades told() {
        ArchTrades x = new ArchTrades();
        if (story == 1) {
            tellMidway(x);
        } else if (story == 2) {
            tellFull(x);
        }
        return x;
    }

    /** Something of each sort that can be seen, and a status that is not 0. */
    private static void tellMidway(ArchTrades x) {
        Texts.bridge(x, "tide 21");
        Texts.bridge(x, Texts.TIDE + "arch 4 4 20 1;arch 0 1 15 2;arch 2 4 9 3;boat cog 5 1 2 0 0;boat cart 5 0 2 3 0;boat raft 9 0 0 1 0;"
            + "boat wain 2 0 0 0 0;");
        x.row(0, 0, 6);
        x.row(1, 1, 40);
        x.row(2, 2, 0);
        for (int i = 0; i < 6; i++) {
            x.set(0, i, i % 3);
        }
        x.set(0, 5, 7);
        x.lend(1, 0, 4);
        x.shut(2, 1);
        x.image(0);
        x.pass(0, 1);
        x.split(1, 1);
        x.pass(3, 0);
        x.hour();
        x.pass(2, 0);
        x.ask(1, 1);
        Texts.feed(x, "tide 1 2 3");
        x.row(4, 0, -1);
    }

    private static void tellFull(ArchTrades x) {
        Texts.bridge(x, Texts.TIDE + "arch 4 4 20 1;".repeat(6) + "boat cog 1 1 2 0 0;boat wain 1 0 2 3 0;" + "boat cog 1 0 0 1 0;".repeat(3)
            + "boat raft 1 1 1 0 0;");
        for (int row = 0; row < 8; row++) {
            x.row(row, 0, 40);
        }
        x.image(1);
        x.pass(0, 3);
        for (int hour = 0; hour < 11; hour++) {
            x.hour();
        }
        for (int n = 0; n < 14; n++) {
            x.lend(n % 6, n % 2, n % 5);
        }
        x.pass(2, 0);
        for (int n = 0; n < 62; n++) {
            x.feed(0x2020202020202020L, 8);
        }
        x.feed(0x20202020L, 4);
        x.set(0, 40, 1);
    }

    private void refused(String call, int want, ToIntFunction<ArchTrades> refusal) {
        boolean isFinding = want <= NULL && want >= STORE;
        for (int view = 0; view < VIEWS; view++) {
            ArchTrades x = told();
            ArchTrades twin = told();
            T.due("story " + story + ", " + call, refusal.applyAsInt(x), want);
            T.due("story " + story + ", status() behind " + call, x.status(), isFinding ? -1000010 - want : twin.status());
            T.same("story " + story + ", view " + view + " behind " + call, seen(x, view), seen(twin, view));
        }
    }

    /** Each view changes what it looks at, so each has an object of its own. */
    private static String seen(ArchTrades x, int view) {
        StringBuilder s = new StringBuilder();
        switch (view) {
            case 0: bridgeSeen(x, s); break;
            case 1: undoSeen(x, s); break;
            case 2: imageSeen(x, s, 0); break;
            case 3: imageSeen(x, s, 1); break;
            case 4: tapeSeen(x, s); break;
            default: rowsSeen(x, s); break;
        }
        return s.toString();
    }

    private static void add(StringBuilder s, int answer) {
        s.append(answer).append(' ');
    }

    private static void bridgeSeen(ArchTrades x, StringBuilder s) {
        for (int what = 0; what < 8; what++) {
            add(s, x.count(what));
        }
        add(s, x.fault());
        for (int i = 0; i < 16; i++) {
            add(s, x.trace(i));
        }
        for (int i = 0; i < 6; i++) {
            for (int what = 0; what < 8; what++) {
                add(s, x.arch(i, what));
                add(s, x.boat(i, what));
            }
            add(s, x.kind(i));
            for (int hour = 0; hour < 12; hour++) {
                add(s, x.may(i, hour));
            }
            add(s, x.most(0, 2, i));
            add(s, x.anew(0, 2, i));
        }
    }

    private static void undoSeen(ArchTrades x, StringBuilder s) {
        for (int n = 0; n < 25; n++) {
            add(s, x.undo());
            for (int what = 2; what < 7; what++) {
                add(s, x.count(what));
            }
            add(s, x.arch(0, 0) * 100 + x.arch(n % 6, 1) * 10 + x.arch(2, 4));
            add(s, x.arch(0, 5) * 10 + x.arch(1, 5));
        }
    }

    private static void imageSeen(ArchTrades x, StringBuilder s, int k) {
        add(s, x.restore(k));
        for (int what = 1; what < 7; what++) {
            add(s, x.count(what));
        }
        for (int i = 0; i < 6; i++) {
            for (int what = 0; what < 8; what++) {
                add(s, x.arch(i, what));
                add(s, x.boat(i, what));
            }
            add(s, x.may(i, 1));
        }
    }

    private static void tapeSeen(ArchTrades x, StringBuilder s) {
        Texts.feed(x, " 4 5 6 7 8 9 10 11 12;arch 3 2 30 9;");
        add(s, x.bridge());
        add(s, x.fault());
        add(s, x.count(7));
        add(s, x.arch(0, 0));
    }

    /** Sizes by a last place, LANES by a copy of none, ITEMS by weighing. */
    private static void rowsSeen(ArchTrades x, StringBuilder s) {
        x.bridge();
        Texts.bridge(x, READ_ROWS);
        for (int row = 0; row < 8; row++) {
            for (int i = -1; i < 8; i++) {
                add(s, x.weighed(row, i));
            }
            add(s, x.weighed(row, 39));
            for (int lane = 0; lane < 3; lane++) {
                add(s, x.copy(row, 0, lane, 0, 0));
            }
            add(s, x.set(row, 0, 70000));
            add(s, x.drop(row));
        }
    }

    private void untold() {
        story = 0;
        badNumbers();
        refused("drop", NULL, x -> x.drop(0));
        refused("set", NULL, x -> x.set(0, 0, 1));
        refused("copy", NULL, x -> x.copy(0, 0, 1, 0, 1));
        refused("row", SIZE, x -> x.row(0, 0, -1));
        refused("lend", BAD, x -> x.lend(0, 0, 0));
        refused("shut", BAD, x -> x.shut(0, 1));
        refused("pass", BAD, x -> x.pass(0, 0));
        refused("split", BAD, x -> x.split(0, 0));
        refused("hour", STATE, ArchTrades::hour);
        refused("undo", STATE, ArchTrades::undo);
        refused("most", STATE, x -> x.most(0, 11, -1));
        refused("anew", STATE, x -> x.anew(0, 11, -1));
        refused("cut", STATE, x -> x.cut(0, 0));
        refused("weighed", STATE, x -> x.weighed(0, 0));
        refused("image 0", STATE, x -> x.image(0));
        refused("image 1", STATE, x -> x.image(1));
        refused("restore 0", STATE, x -> x.restore(0));
        refused("restore 1", STATE, x -> x.restore(1));
    }

    /** Refused in every story. */
    private void badNumbers() {
        refused("row", BAD, x -> x.row(8, 0, 3));
        refused("row of a LANE", BAD, x -> x.row(0, 3, 3));
        refused("row of 41", BAD, x -> x.row(0, 0, 41));
        refused("set", BAD, x -> x.set(-1, 0, 1));
        refused("copy of a", BAD, x -> x.copy(8, 0, 0, 0, 1));
        refused("copy to b", BAD, x -> x.copy(0, 0, -1, 0, 1));
        refused("drop", BAD, x -> x.drop(8));
        refused("feed of 0", BAD, x -> x.feed(-1, 0));
        refused("feed of 9", BAD, x -> x.feed(-1, 9));
        refused("lend by 6", BAD, x -> x.lend(6, 0, 0));
        refused("lend of 2", BAD, x -> x.lend(0, 2, 0));
        refused("lend to 5", BAD, x -> x.lend(0, 0, 5));
        refused("shut of 6", BAD, x -> x.shut(6, 1));
        refused("shut to 2", BAD, x -> x.shut(0, 2));
        refused("pass of 6", BAD, x -> x.pass(6, 0));
        refused("pass by 6", BAD, x -> x.pass(0, 6));
        refused("split of 6", BAD, x -> x.split(6, 0));
        refused("split of TRADE 4", BAD, x -> x.split(0, 4));
        refused("arch", BAD, x -> x.arch(6, 0));
        refused("arch, what", BAD, x -> x.arch(0, 7));
        refused("boat", BAD, x -> x.boat(6, 0));
        refused("boat, what", BAD, x -> x.boat(0, 8));
        refused("may", BAD, x -> x.may(0, 12));
        refused("image", BAD, x -> x.image(2));
        refused("restore", BAD, x -> x.restore(2));
        refused("kind", BAD, x -> x.kind(6));
        refused("as", BAD, x -> x.as(0, 6));
        refused("ask of 6", BAD, x -> x.ask(6, 0));
        refused("ask, what", BAD, x -> x.ask(0, 2));
        refused("count", BAD, x -> x.count(8));
    }

    /** BAD where a BRIDGE stands. */
    private void badForetold() {
        refused("most, a above b", BAD, x -> x.most(3, 2, -1));
        refused("most of 6", BAD, x -> x.most(0, 2, 6));
        refused("anew, b 12", BAD, x -> x.anew(0, 12, -1));
        refused("anew of 6", BAD, x -> x.anew(0, 2, 6));
        refused("cut, tide", BAD, x -> x.cut(31, 0));
        refused("cut, mast", BAD, x -> x.cut(0, 21));
        refused("weighed", BAD, x -> x.weighed(8, 0));
    }

    private void midway() {
        story = 1;
        badNumbers();
        badForetold();
        refused("row", SIZE, x -> x.row(0, 2, -1));
        refused("set", NULL, x -> x.set(7, 0, 1));
        refused("set at 6", PLACE, x -> x.set(0, 6, 1));
        refused("set at -1", PLACE, x -> x.set(1, -1, 1));
        refused("copy, missing", NULL, x -> x.copy(0, 0, 7, 0, 1));
        refused("copy, LANES", STORE, x -> x.copy(0, 0, 1, 0, 3));
        refused("copy, beyond a", PLACE, x -> x.copy(0, 4, 0, 0, 3));
        refused("copy, beyond b", PLACE, x -> x.copy(0, 0, 0, 4, 3));
        refused("copy, n", PLACE, x -> x.copy(0, 3, 0, 3, -1));
        refused("drop", NULL, x -> x.drop(7));
        refused("lend by 3", BAD, x -> x.lend(3, 0, 0));
        refused("shut of 3", BAD, x -> x.shut(3, 1));
        refused("pass of 5", BAD, x -> x.pass(5, 0));
        refused("pass of one GONE", STATE, x -> x.pass(0, 0));
        refused("pass by one that is SHUT", STATE, x -> x.pass(1, 2));
        refused("pass by another's", STATE, x -> x.pass(1, 1));
        refused("split of one GONE", STATE, x -> x.split(0, 0));
        refused("split of none", STATE, x -> x.split(1, 0));
        refused("split of nothing else", STATE, x -> x.split(1, 2));
        refused("restore", STATE, x -> x.restore(1));
        refused("weighed, missing", NULL, x -> x.weighed(7, 0));
        refused("weighed, beyond", PLACE, x -> x.weighed(0, 3));
        refused("weighed, no TRADE", BAD, x -> x.weighed(0, 1));
        refused("as", KIND, x -> x.as(0, 4));
    }

    private void full() {
        story = 2;
        badNumbers();
        badForetold();
        refused("feed", FULL, x -> x.feed(-1, 1));
        refused("feed of 8", FULL, x -> x.feed(-1, 8));
        refused("split", FULL, x -> x.split(1, 1));
        refused("split of the last", FULL, x -> x.split(5, 0));
        refused("split of one GONE", STATE, x -> x.split(0, 0));
        refused("hour", FULL, ArchTrades::hour);
        refused("pass, taken", STATE, x -> x.pass(3, 0));
        refused("restore", STATE, x -> x.restore(0));
        refused("row", SIZE, x -> x.row(7, 2, Integer.MIN_VALUE));
        refused("weighed", PLACE, x -> x.weighed(7, 35));
        refused("as", KIND, x -> x.as(1, 2));
    }

    /** Calls that have several refusals at once. */
    private static void order() {
        T.says("Refusals are answers, the first of these that fits, but as told: BAD (a number is not as told; there is no such thing), "
            + "STATE (as told), FULL (as told), then FINDINGS, of several the first in time");
        ArchTrades x = new ArchTrades();
        tellFull(x);
        T.due("row, BAD of SIZE", x.row(8, 0, -1), BAD);
        T.due("feed, BAD of FULL", x.feed(0, 9), BAD);
        T.due("pass, BAD of STATE", x.pass(0, 6), BAD);
        T.due("split, BAD of STATE, FULL", x.split(0, 4), BAD);
        T.due("split, STATE of FULL", x.split(0, 0), STATE);
        T.due("split, FULL", x.split(1, 1), FULL);
        T.due("hour, FULL", x.hour(), FULL);
        T.due("restore, BAD of STATE", x.restore(2), BAD);
        T.due("as, BAD of KIND", x.as(6, 5), BAD);
        x.drop(7);
        x.row(6, 1, 3);
        T.due("set, BAD of PLACE", x.set(8, 99, 0), BAD);
        T.due("set, NULL of PLACE", x.set(7, 99, 0), NULL);
        T.due("copy, BAD of NULL", x.copy(7, 0, 8, 0, 0), BAD);
        T.due("copy, NULL of STORE, PLACE", x.copy(6, -1, 7, 0, 0), NULL);
        T.due("copy, STORE of PLACE", x.copy(6, -1, 0, 0, 0), STORE);
        T.due("weighed, BAD of PLACE", x.weighed(8, -1), BAD);
        T.due("weighed, NULL of PLACE", x.weighed(7, -1), NULL);
        x.set(0, 39, 9);
        T.due("weighed, PLACE of a later BAD", x.weighed(0, 35), PLACE);
        T.due("weighed, a later BAD", x.weighed(0, 34), BAD);
        ArchTrades none = new ArchTrades();
        T.due("most, STATE of BAD", none.most(9, 8, 7), STATE);
        T.due("anew, STATE of BAD", none.anew(9, 8, 7), STATE);
        T.due("cut, STATE of BAD", none.cut(31, 21), STATE);
        T.due("weighed, STATE of BAD", none.weighed(8, 0), STATE);
        T.due("weighed, STATE of NULL", none.weighed(0, 0), STATE);
        T.due("image, BAD of STATE", none.image(2), BAD);
    }

    /** What calls behind the 512th answer is free, but none may throw. */
    private static void manyCalls() {
        T.says("An object is used for at most 512 calls after it has been made");
        ArchTrades x = Texts.with(Texts.TIDE + "arch 4 4 20 1;boat cog 1 1 2 0 0;");
        int before = 12;
        int wrong = 0;
        for (int call = before; call < 512; call += 4) {
            wrong += x.lend(0, 0, 1) == 4 ? 0 : 1;
            wrong += x.shut(0, 1) == 0 ? 0 : 1;
            wrong += x.undo() == 1 ? 0 : 1;
            wrong += x.undo() == 0 ? 0 : 1;
        }
        T.due("the 512th call, as all others", wrong, 0);
        for (int call = 0; call < 5000; call++) {
            x.hour();
            x.shut(0, call % 2);
            x.feed(call, 1 + call % 8);
            x.ask(0, call % 2);
        }
        T.due("as many calls more", 1, 1);
    }
}
