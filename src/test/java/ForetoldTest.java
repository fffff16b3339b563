import java.util.Random;

/** Crowded bridges, on which BOATS must make way for one another in chains, held against the model. */
public final class ForetoldTest {
    private static final int BRIDGES = 6000;
    private static final Check CHECK = new Check("ForetoldTest");
    private static final String[] SORTS = {"barge", "cog", "raft", "cart", "wain"};

    private final Random random = new Random(20261118);

    private ForetoldTest() {
    }

    public static void main(String[] args) {
        ForetoldTest test = new ForetoldTest();
        for (int n = 0; n < BRIDGES && CHECK.wrong() == 0; n++) {
            test.one(n % 20 == 0);
        }
        CHECK.end();
    }

    private void one(boolean isDealt) {
        String text = text();
        ArchTrades x = Texts.with(text);
        Model m = new Model();
        for (int i = 0; i < text.length(); i++) {
            m.feed(text.charAt(i), 1);
        }
        m.bridge();
        int shut = random.nextInt(8);
        x.shut(shut, 1);
        m.shut(shut, 1);
        for (int n = 0; n < 2; n++) {
            int a = random.nextInt(12);
            int b = Math.min(11, a + random.nextInt(n == 0 ? 2 : 12));
            for (int k = -1; k < x.count(2); k++) {
                CHECK.due("most(" + a + ", " + b + ", " + k + ") of " + text, x.most(a, b, k), m.most(a, b, k));
            }
            for (int k = -1; isDealt && k < x.count(1); k++) {
                CHECK.due("anew(" + a + ", " + b + ", " + k + ") of " + text, x.anew(a, b, k), m.anew(a, b, k));
            }
        }
    }

    /** Masts near to what room there is, so that each BOAT has a few places, not all and not none. */
    private String text() {
        StringBuilder s = new StringBuilder("tide");
        int base = random.nextInt(15);
        for (int h = 0; h < 12; h++) {
            s.append(' ').append(base + random.nextInt(6));
        }
        s.append(';');
        int arches = 1 + random.nextInt(6);
        int least = Math.max(1, base + random.nextInt(5));
        boolean isLoose = random.nextBoolean();
        for (int a = 0; a < arches; a++) {
            s.append("arch ").append(charter(isLoose)).append(' ').append(charter(isLoose)).append(' ');
            s.append(Math.min(30, least + random.nextInt(8))).append(" 1;");
        }
        int boats = 3 + random.nextInt(4);
        boolean isBelow = random.nextInt(4) > 0;
        for (int b = 0; b < boats; b++) {
            s.append("boat ").append(SORTS[random.nextInt(isBelow ? 3 : 5)]).append(' ').append(random.nextInt(10));
            int trade = random.nextInt(5);
            for (int t = 0; t < 4; t++) {
                s.append(t == trade ? " 3" : random.nextInt(25) == 0 ? " 1" : " 0");
            }
            s.append(';');
        }
        return s.toString();
    }

    private int charter(boolean isLoose) {
        return isLoose && random.nextInt(3) > 0 ? 4 : random.nextInt(5);
    }
}
