import java.nio.charset.StandardCharsets;

/** Brings texts onto the tape of an object. */
final class Texts {
    static final String TIDE = "tide 0 3 6 9 12 15 18 15 12 9 6 3;";
    static final String STILL = "tide 0 0 0 0 0 0 0 0 0 0 0 0;";

    private Texts() {
    }

    /** Feeds all of a text, as many bytes at once as there may be. */
    static void feed(ArchTrades x, String text) {
        byte[] bytes = text.getBytes(StandardCharsets.ISO_8859_1);
        for (int from = 0; from < bytes.length; from += 8) {
            int n = Math.min(8, bytes.length - from);
            x.feed(packed(bytes, from, n), n);
        }
    }

    static long packed(byte[] bytes, int from, int n) {
        long w = 0;
        for (int i = 0; i < n; i++) {
            w = w << 8 | bytes[from + i] & 255;
        }
        return w;
    }

    static int bridge(ArchTrades x, String text) {
        feed(x, text);
        return x.bridge();
    }

    static ArchTrades with(String text) {
        ArchTrades x = new ArchTrades();
        if (bridge(x, text) < 0) {
            throw new IllegalStateException("the text of a test has a fault: " + text);
        }
        return x;
    }
}
