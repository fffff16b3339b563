import java.nio.charset.StandardCharsets;
import java.util.Random;

/** Long runs of calls, the same at each run of the test, on the program and on the model. */
public final class ModelTest {
    private static final int RUNS = 1500, CALLS = 512;
    private static final Check CHECK = new Check("ModelTest");
    private static final String[] SORTS = {"barge", "cog", "raft", "cart", "wain"};
    private static final String STRAY = " \n;0129abot?A-\0\u00e9";

    private final Random random;
    private final ArchTrades x = new ArchTrades();
    private final Model m = new Model();
    private final StringBuilder told = new StringBuilder();
    private int calls;

    private ModelTest(int seed) {
        random = new Random(seed);
    }

    public static void main(String[] args) {
        for (int seed = 1; seed <= RUNS && CHECK.wrong() == 0; seed++) {
            ModelTest run = new ModelTest(seed);
            run.go();
            if (CHECK.wrong() != 0) {
                System.out.println("seed " + seed + ":" + run.told);
            }
        }
        CHECK.end();
    }

    private int upTo(int n) {
        return random.nextInt(n + 1);
    }

    /** A number from 0 on, at times just beside what there is, at times wild. */
    private int about(int n) {
        int roll = random.nextInt(100);
        if (roll == 0) {
            return random.nextInt();
        }
        return roll < 4 ? -1 : roll < 8 ? n : random.nextInt(n);
    }

    private void due(String call, int got, int want) {
        calls++;
        told.append("\n  ").append(call).append(" = ").append(got);
        CHECK.due(call, got, want);
    }

    private void go() {
        int wilds = random.nextInt(4);
        while (calls < CALLS && CHECK.wrong() == 0) {
            if (calls == 0 || random.nextInt(150) == 0) {
                tell();
            } else {
                one(random.nextInt(wilds == 0 ? 26 : 34));
            }
        }
    }

    private void tell() {
        String text = text();
        if (random.nextInt(4) == 0) {
            text = spoilt(text);
        }
        byte[] bytes = text.getBytes(StandardCharsets.ISO_8859_1);
        for (int from = 0; from < bytes.length; from += 8) {
            int n = Math.min(8, bytes.length - from);
            long w = Texts.packed(bytes, from, n);
            due("feed", x.feed(w, n), m.feed(w, n));
        }
        due("bridge of '" + text + "'", x.bridge(), m.bridge());
        due("fault", x.fault(), m.fault());
    }

    private String text() {
        StringBuilder s = new StringBuilder("tide");
        int most = random.nextInt(21);
        for (int h = 0; h < 12; h++) {
            s.append(' ').append(upTo(most));
        }
        s.append(';');
        int arches = 1 + random.nextInt(6) + (random.nextInt(60) == 0 ? 1 : 0);
        int high = 1 + random.nextInt(30);
        for (int a = 0; a < arches; a++) {
            s.append(gap()).append("arch ").append(upTo(4)).append(' ').append(upTo(4)).append(' ');
            s.append(1 + random.nextInt(high)).append(' ').append(upTo(9)).append(';');
        }
        int boats = random.nextInt(7) + (random.nextInt(60) == 0 ? 1 : 0);
        int kinds = random.nextInt(3);
        for (int b = 0; b < boats; b++) {
            String sort = SORTS[kinds == 0 ? random.nextInt(3) : kinds == 1 ? 3 + random.nextInt(2) : random.nextInt(5)];
            s.append(gap()).append("boat ").append(sort).append(' ').append(upTo(Math.min(20, high)));
            int mix = random.nextInt(4);
            for (int t = 0; t < 4; t++) {
                s.append(' ').append(t == mix || random.nextInt(5) == 0 ? upTo(9) : 0);
            }
            s.append(';');
        }
        return s.toString();
    }

    private String gap() {
        return random.nextInt(5) == 0 ? "\n" : "";
    }

    private String spoilt(String text) {
        StringBuilder s = new StringBuilder(text);
        int at = random.nextInt(s.length());
        char stray = STRAY.charAt(random.nextInt(STRAY.length()));
        switch (random.nextInt(4)) {
            case 0: s.setCharAt(at, stray); break;
            case 1: s.insert(at, stray); break;
            case 2: s.deleteCharAt(at); break;
            default: s.setLength(at); break;
        }
        return s.toString();
    }

    private void one(int what) {
        if (what < 12) {
            acted(what);
        } else if (what < 22) {
            looked(what);
        } else if (what < 26) {
            foretold(what);
        } else {
            rowed(what);
        }
    }

    private void acted(int what) {
        int boats = Math.max(1, x.count(2));
        int arches = Math.max(1, x.count(1));
        int b = about(boats);
        int a = about(arches);
        switch (what) {
            case 0: {
                int which = about(2);
                int trade = about(5);
                due("lend(" + a + ", " + which + ", " + trade + ")", x.lend(a, which, trade), m.lend(a, which, trade));
                break;
            }
            case 1: {
                int is = random.nextInt(3) == 0 ? 1 : about(2);
                due("shut(" + a + ", " + is + ")", x.shut(a, is), m.shut(a, is));
                break;
            }
            case 2:
            case 3:
            case 4:
            case 5: due("pass(" + b + ", " + a + ")", x.pass(b, a), m.pass(b, a)); break;
            case 6: {
                int trade = about(4);
                due("split(" + b + ", " + trade + ")", x.split(b, trade), m.split(b, trade));
                break;
            }
            case 7: due("hour()", x.hour(), m.hour()); break;
            case 8:
            case 9: due("undo()", x.undo(), m.undo()); break;
            case 10: {
                int k = about(2);
                due("image(" + k + ")", x.image(k), m.image(k));
                break;
            }
            default: {
                int k = about(2);
                if (random.nextInt(4) == 0) {
                    due("restore(" + k + ")", x.restore(k), m.restore(k));
                }
                break;
            }
        }
    }

    private void looked(int what) {
        int b = about(Math.max(1, x.count(2)));
        int a = about(Math.max(1, x.count(1)));
        int w = about(8);
        int hour = about(12);
        switch (what) {
            case 12:
            case 13: due("arch(" + a + ", " + w + ")", x.arch(a, w), m.arch(a, w)); break;
            case 14:
            case 15: due("boat(" + b + ", " + w + ")", x.boat(b, w), m.boat(b, w)); break;
            case 16:
            case 17: due("may(" + b + ", " + hour + ")", x.may(b, hour), m.may(b, hour)); break;
            case 18: due("count(" + w + ")", x.count(w), m.count(w)); break;
            case 19: {
                int ask = about(2);
                due("ask(" + b + ", " + ask + ")", x.ask(b, ask), m.ask(b, ask));
                for (int i = -1; i < 7; i++) {
                    due("trace(" + i + ")", x.trace(i), m.trace(i));
                }
                break;
            }
            case 20: {
                int kind = about(6);
                due("kind(" + b + ")", x.kind(b), m.kind(b));
                due("as(" + b + ", " + kind + ")", x.as(b, kind), m.as(b, kind));
                break;
            }
            default: due("status()", x.status(), m.status()); break;
        }
    }

    private void foretold(int what) {
        int from = about(12);
        int to = random.nextInt(3) == 0 ? about(12) : from + random.nextInt(2);
        int k = about(7) - 1;
        switch (what) {
            case 22:
            case 23: due("most(" + from + ", " + to + ", " + k + ")", x.most(from, to, k), m.most(from, to, k)); break;
            case 24: {
                if (random.nextInt(6) == 0) {
                    due("anew(" + from + ", " + to + ", " + k + ")", x.anew(from, to, k), m.anew(from, to, k));
                }
                break;
            }
            default: {
                int tide = about(31);
                int mast = about(21);
                due("cut(" + tide + ", " + mast + ")", x.cut(tide, mast), m.cut(tide, mast));
                break;
            }
        }
    }

    private void rowed(int what) {
        int r = random.nextInt(3) == 0 ? about(8) : random.nextInt(2);
        int q = random.nextInt(3) == 0 ? about(8) : random.nextInt(2);
        int i = about(8);
        int j = about(8);
        switch (what) {
            case 26: {
                int lane = random.nextInt(3) > 0 ? 0 : about(3);
                int n = random.nextInt(4) == 0 ? about(41) : random.nextInt(10);
                due("row(" + r + ", " + lane + ", " + n + ")", x.row(r, lane, n), m.row(r, lane, n));
                break;
            }
            case 27:
            case 28:
            case 29: {
                int v = random.nextInt(4) == 0 ? random.nextInt() : random.nextInt(4);
                due("set(" + r + ", " + i + ", " + v + ")", x.set(r, i, v), m.set(r, i, v));
                break;
            }
            case 30: {
                int n = about(6);
                due("copy(" + r + ", " + i + ", " + q + ", " + j + ", " + n + ")", x.copy(r, i, q, j, n), m.copy(r, i, q, j, n));
                break;
            }
            case 31: {
                if (random.nextInt(3) == 0) {
                    due("drop(" + r + ")", x.drop(r), m.drop(r));
                }
                break;
            }
            default: due("weighed(" + r + ", " + i + ")", x.weighed(r, i), m.weighed(r, i)); break;
        }
    }
}
