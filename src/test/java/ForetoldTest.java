import java.util.Random;

/** Crowded bridges, on which BOATS must make way for one another in chains, held against the model. */
public final class ForetoldTest {
    private static final int BRIDGES = 6000;
    private static final Check CHECK = new Check("ForetoldTest");
    private static final String[] SORTS = {"barge", "cog", "raft", "cart", "wain"};

    /**
     * Knots, so rare that random bridges seldom have one: a BOAT that makes way would be asked again by the one that
     * it asks. If it were, two BOATS would have one place, and there would be a place that no BOAT has.
     */
    private static final String[] KNOTS = {
        "6 7 tide 1 1 0 1 1 1 0 2 0 1 1 2;arch 1 4 2 1;arch 4 4 6 1;arch 3 4 3 1;arch 0 4 6 1;arch 0 4 2 1;arch 4 4 5 1;boat barge 4 0 1 0 0;"
            + "boat barge 8 0 0 0 0;boat barge 1 3 0 0 0;boat cog 3 0 1 0 1;boat cog 6 0 3 0 0;boat barge 6 0 0 0 3;",
        "0 2 tide 8 5 7 8 5 5 7 6 10 9 9 7;arch 4 4 11 1;arch 0 4 7 1;arch 1 4 5 1;arch 4 4 9 1;arch 0 4 6 1;arch 0 4 11 1;"
            + "boat cog 4 0 0 3 0;boat raft 2 1 0 0 1;boat raft 1 0 3 0 0;boat cog 4 1 0 0 0;boat cog 6 0 0 0 3;boat cog 5 0 0 3 0;",
        "7 9 tide 11 11 13 13 14 14 12 13 14 12 11 12;arch 4 4 18 1;arch 2 4 13 1;arch 4 4 14 1;arch 2 4 18 1;boat cog 5 0 0 0 3;"
            + "boat barge 1 0 0 3 0;boat barge 2 3 0 0 0;boat raft 6 3 0 0 0;boat cog 6 1 1 0 0;boat barge 7 0 0 0 1;",
        "7 8 tide 10 10 10 10 10 10 10 10 10 10 10 10;arch 1 4 15 1;arch 4 4 15 1;arch 0 4 15 1;arch 4 4 11 1;boat raft 6 1 1 0 1;"
            + "boat raft 4 0 3 0 0;boat raft 1 0 0 0 3;boat barge 1 0 0 0 0;boat raft 8 0 3 0 0;boat raft 4 0 1 0 1;",
        "0 0 tide 1 1 1 1 1 1 1 1 1 1 1 1;arch 0 4 5 1;arch 4 4 6 1;arch 1 4 1 1;arch 0 4 10 1;arch 4 4 7 1;arch 3 4 5 1;boat cog 6 0 0 0 0;"
            + "boat cog 0 0 0 0 0;boat raft 6 0 0 3 0;boat cog 4 0 0 0 0;boat raft 4 3 0 0 0;boat raft 5 0 0 3 0;"};

    private final Random random = new Random(20261118);

    private ForetoldTest() {
    }

    public static void main(String[] args) {
        for (String knot : KNOTS) {
            String[] parts = knot.split(" ", 3);
            knotted(parts[2], Integer.parseInt(parts[0]), Integer.parseInt(parts[1]));
        }
        ForetoldTest test = new ForetoldTest();
        for (int n = 0; n < BRIDGES && CHECK.wrong() == 0; n++) {
            test.one(n % 20 == 0);
        }
        CHECK.end();
    }

    private static Model model(String text) {
        Model m = new Model();
        for (int i = 0; i < text.length(); i++) {
            m.feed(text.charAt(i), 1);
        }
        m.bridge();
        return m;
    }

    private static void knotted(String text, int a, int b) {
        ArchTrades x = Texts.with(text);
        Model m = model(text);
        for (int k = -1; k < 6; k++) {
            CHECK.due("most(" + a + ", " + b + ", " + k + ") of " + text, x.most(a, b, k), m.most(a, b, k));
        }
    }

    private void one(boolean isDealt) {
        String text = text();
        ArchTrades x = Texts.with(text);
        Model m = model(text);
        int shut = random.nextInt(8);
        x.shut(shut, 1);
        m.shut(shut, 1);
        for (int n = 0; n < 2; n++) {
            int a = random.nextInt(12);
            int b = Math.min(11, a + random.nextInt(n == 0 ? 2 : 12));
            for (int k = -1; k < x.count(2); k++) {
                CHECK.due("most(" + a + ", " + b + ", " + k + ") of " + text, x.most(a, b, k), m.most(a, b, k));
            }
            for (int k = -1; isDealt && k < x.count(1); k++) {
                CHECK.due("anew(" + a + ", " + b + ", " + k + ") of " + text, x.anew(a, b, k), m.anew(a, b, k));
            }
        }
    }

    /** Masts near to what room there is, so that each BOAT has a few places, not all and not none. */
    private String text() {
        StringBuilder s = new StringBuilder("tide");
        int base = random.nextInt(15);
        for (int h = 0; h < 12; h++) {
            s.append(' ').append(base + random.nextInt(6));
        }
        s.append(';');
        int arches = 1 + random.nextInt(6);
        int least = Math.max(1, base + random.nextInt(5));
        boolean isLoose = random.nextBoolean();
        for (int a = 0; a < arches; a++) {
            s.append("arch ").append(charter(isLoose)).append(' ').append(charter(isLoose)).append(' ');
            s.append(Math.min(30, least + random.nextInt(8))).append(" 1;");
        }
        int boats = 3 + random.nextInt(4);
        boolean isBelow = random.nextInt(4) > 0;
        for (int b = 0; b < boats; b++) {
            s.append("boat ").append(SORTS[random.nextInt(isBelow ? 3 : 5)]).append(' ').append(random.nextInt(10));
            int trade = random.nextInt(5);
            for (int t = 0; t < 4; t++) {
                s.append(t == trade ? " 3" : random.nextInt(25) == 0 ? " 1" : " 0");
            }
            s.append(';');
        }
        return s.toString();
    }

    private int charter(boolean isLoose) {
        return isLoose && random.nextInt(3) > 0 ? 4 : random.nextInt(5);
    }
}
