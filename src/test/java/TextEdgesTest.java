import java.nio.charset.StandardCharsets;
import java.util.ArrayList;
import java.util.List;

/** The boundary cases of the tape, of its TOKENS and of the FAULTS: promises 6 to 8, and what the terms say of TEXTS. */
public final class TextEdgesTest {
    private static final int BAD = -1000001, STATE = -1000002, FULL = -1000003, FAULT = -1000100;
    private static final int LEAST = Integer.MIN_VALUE, GREATEST = Integer.MAX_VALUE;
    private static final String ARCH = "arch 4 4 9 1;", BOAT = "boat cog 3 1 0 0 0;";
    private static final Sentences T = new Sentences("TextEdgesTest");

    private TextEdgesTest() {
    }

    public static void main(String[] args) {
        fedBytes();
        fedWrong();
        tapeEnd();
        noneComes();
        emptyThen();
        figures();
        names();
        otherBytes();
        blanks();
        tideNumbers();
        archNumbers();
        boatNumbers();
        sorts();
        howManyArches();
        howManyBoats();
        theEnd();
        cannotStand();
        theFirst();
        notAsTold();
        theLeast();
        inPlace();
        allStays();
        latestFault();
        T.end();
    }

    /** A text whose FAULT, and its place, are told; a number of 0: it has none, and the place is how many ARCHES it has. */
    private static void read(String text, int number, int place) {
        ArchTrades x = new ArchTrades();
        T.due("bridge() of '" + text + "'", Texts.bridge(x, text), number == 0 ? place : FAULT - place);
        T.due("fault() of '" + text + "'", x.fault(), number);
        T.due("a BRIDGE of '" + text + "'", x.hour(), number == 0 ? 1 : STATE);
    }

    private static void fedBytes() {
        T.says(6, "The lowest n bytes of w (1 to 8), the highest of them first, come behind the tape: how many it has");
        byte[] text = (Texts.TIDE + ARCH + BOAT).getBytes(StandardCharsets.ISO_8859_1);
        for (int n = 1; n <= 8; n++) {
            ArchTrades x = new ArchTrades();
            for (int from = 0; from < text.length; from += n) {
                int some = Math.min(n, text.length - from);
                long above = some == 8 ? 0 : 0x3b41ff00617a8039L << 8 * some;
                T.due("feed of " + some + " from " + from, x.feed(above | Texts.packed(text, from, some), some), from + some);
            }
            T.due("read, fed by " + n, x.bridge(), 1);
            T.due("its BOAT, fed by " + n, x.boat(0, 4), 3);
        }
        ArchTrades y = new ArchTrades();
        T.due("all ones, 8", y.feed(-1L, 8), 8);
        T.due("all ones, 1", y.feed(-1L, 1), 9);
        T.due("the least", y.feed(Long.MIN_VALUE, 8), 17);
        T.due("the greatest", y.feed(Long.MAX_VALUE, 7), 24);
    }

    private static void fedWrong() {
        T.says(6, "BAD: n");
        ArchTrades x = new ArchTrades();
        for (int n : new int[] {LEAST, LEAST + 1, -8, -1, 0, 9, 10, 16, GREATEST}) {
            T.due("feed of " + n, x.feed(0x2020202020202020L, n), BAD);
        }
        T.due("none came", x.count(7), 0);
        T.due("1", x.feed(32, 1), 1);
        T.due("8", x.feed(32, 8), 9);
    }

    private static ArchTrades fedUpTo(int bytes) {
        ArchTrades x = new ArchTrades();
        for (int left = bytes; left > 0; left -= 8) {
            x.feed(0x2020202020202020L, Math.min(8, left));
        }
        return x;
    }

    private static void tapeEnd() {
        T.says("THE TAPE has at most 500 bytes");
        for (int n = 1; n <= 8; n++) {
            T.due("just room for " + n, fedUpTo(500 - n).feed(0, n), 500);
            T.due("room for " + n + " and one", fedUpTo(499 - n).feed(0, n), 499);
            T.due("no room for " + n, fedUpTo(501 - n).feed(0, n), FULL);
            T.due("no room at all for " + n, fedUpTo(500).feed(0, n), FULL);
        }
        T.due("BAD ahead of FULL", fedUpTo(500).feed(0, 9), BAD);
        T.due("BAD ahead of FULL, none", fedUpTo(500).feed(0, 0), BAD);
        T.due("500 blanks", fedUpTo(500).bridge(), FAULT - 500);
        T.due("499 blanks", fedUpTo(499).bridge(), FAULT - 499);
        String text = Texts.TIDE + ARCH + BOAT;
        String spread = " ".repeat(500 - text.length()) + text;
        T.due("a text of 500 bytes", Texts.bridge(new ArchTrades(), spread), 1);
        T.due("a NAME of 500 bytes", Texts.bridge(new ArchTrades(), "a".repeat(500)), FAULT);
        T.due("500 figures", Texts.bridge(new ArchTrades(), "0".repeat(500)), FAULT);
        T.due("500 SIGNS", Texts.bridge(new ArchTrades(), ";".repeat(500)), FAULT);
        T.due("a NAME at the end of all", Texts.bridge(new ArchTrades(), " ".repeat(496) + "tide"), FAULT - 500);
        T.due("a NUMBER at the end of all", Texts.bridge(new ArchTrades(), " ".repeat(494) + "tide 9"), FAULT - 500);
        T.due("a NUMBER not as told at the end of all", Texts.bridge(new ArchTrades(), " ".repeat(493) + "tide 21"), FAULT - 498);
        String longest = Texts.STILL + "arch 004 004 030 009;".repeat(6) + "boat barge 020 009 009 009 009;".repeat(6);
        T.due("as long as TOKENS make it", Texts.bridge(new ArchTrades(), longest), 6);
    }

    private static void noneComes() {
        T.says(6, "FULL: none comes");
        String text = Texts.TIDE + ARCH + BOAT;
        String allButOne = " ".repeat(500 - text.length()) + text.substring(0, text.length() - 1);
        for (int n = 2; n <= 8; n++) {
            ArchTrades x = new ArchTrades();
            Texts.feed(x, allButOne);
            T.due("499", x.count(7), 499);
            T.due("feed of " + n, x.feed(-1L, n), FULL);
            T.due("499 yet", x.count(7), 499);
            T.due("the last byte", x.feed(';', 1), 500);
            T.due("FULL", x.feed(-1L, 1), FULL);
            T.due("read", x.bridge(), 1);
        }
    }

    private static void emptyThen() {
        T.says(7, "The tape, empty then, is read: how many ARCHES there are");
        ArchTrades x = new ArchTrades();
        T.due("an empty tape", x.bridge(), FAULT);
        T.due("its FAULT", x.fault(), 1);
        Texts.feed(x, Texts.STILL + ARCH);
        T.due("read", x.bridge(), 1);
        T.due("empty then", x.count(7), 0);
        T.due("nothing to be read", x.bridge(), FAULT);
        T.due("the BRIDGE stays", x.count(1), 1);
        Texts.feed(x, "tide x");
        T.due("a FAULT", x.bridge(), FAULT - 5);
        T.due("empty then, too", x.count(7), 0);
        T.due("from its start on", x.feed(' ', 1), 1);
        ArchTrades y = fedUpTo(500);
        y.bridge();
        T.due("room again", y.feed(0, 8), 8);
        y.bridge();
        T.due("a shorter text behind a longer one", Texts.bridge(y, Texts.STILL + ARCH), 1);
        T.due("nothing of the longer one is read: a NAME", Texts.bridge(y, "tid"), FAULT);
        Texts.bridge(y, "tide 0 0 0000");
        T.due("nothing of the longer one is read: a NUMBER", Texts.bridge(y, "tide 0 0 0"), FAULT - 10);
        T.due("nothing of the longer one is read: a SIGN", Texts.bridge(y, "tide 0 0 0 0 0 0 0 0 0 0 0 0"), FAULT - 28);
    }

    private static void figures() {
        T.says("NUMBERS (figures, 3 at most)");
        String rest = " 0 0 0 0 0 0 0 0 0 0 0;" + ARCH;
        for (String told : new String[] {"0", "9", "10", "20", "00", "07", "000", "007", "020"}) {
            read("tide " + told + rest, 0, 1);
        }
        for (String told : new String[] {"0000", "0007", "0020", "1000", "9999", "00000", "0".repeat(40), "4294967296", "2147483648"}) {
            read("tide " + told + rest, 1, 5);
        }
        read("tide 0 0 0 0 0 0 0 0 0 0 0 0000;" + ARCH, 1, 27);
        read(Texts.STILL + "arch 0004 4 9 1;", 1, 34);
        read(Texts.STILL + ARCH + "boat cog 0003 1 0 0 0;", 1, 29 + 13 + 9);
    }

    private static void names() {
        T.says("NAMES (letters a to z)");
        read(Texts.STILL + ARCH + BOAT, 0, 1);
        for (String word : new String[] {"t", "tid", "tidee", "tidez", "tidea", "atide", "ztide", "xide", "edit", "a", "z", "arch", "boat", "cog", "tidetide", "z".repeat(400)}) {
            read(word + Texts.STILL.substring(4) + ARCH, 1, 0);
        }
        for (String word : new String[] {"TIDE", "Tide", "{ide", "`ide"}) {
            read(word + Texts.STILL.substring(4) + ARCH, 1, 0);
        }
        read("tidE" + Texts.STILL.substring(4) + ARCH, 1, 0);
        read(Texts.STILL + "archarch 4 4 9 1;", 1, 29);
        read(Texts.STILL + "xrch 4 4 9 1;", 1, 29);
        read(Texts.STILL + ARCH + "xoat cog 3 1 0 0 0;", 1, 42);
    }

    /** A byte between blanks, ahead of eleven NUMBERS: the twelfth, a blank more, or what cannot stand there. */
    private static void otherBytes() {
        T.says("SIGNS ; bytes 32 and 10 between");
        String rest = " 0 0 0 0 0 0 0 0 0 0 0;";
        for (int b = 0; b < 256; b++) {
            String text = "tide " + (char) b + rest;
            boolean isBlank = b == 32 || b == 10;
            if (b >= '0' && b <= '9') {
                read(text + ARCH, 0, 1);
            } else {
                read(text + ARCH, 1, isBlank ? text.length() - 1 : 5);
            }
        }
        for (int b = 0; b < 256; b++) {
            boolean isBlank = b == 32 || b == 10;
            String text = Texts.STILL + ARCH + (char) b;
            read(text, isBlank ? 0 : 1, isBlank ? 1 : text.length() - 1);
        }
    }

    private static void blanks() {
        T.says("bytes 32 and 10 between");
        read("tide\n0\n0 0 0 0 0 0 0 0 0 0 0\n;\narch\n4\n4\n9\n1\n;\nboat\ncog\n3\n1\n0\n0\n0\n;", 0, 1);
        read(" \n \n" + Texts.STILL + "\n\n  " + ARCH + "  \n" + BOAT + "\n ", 0, 1);
        read("tide 0 0 0 0 0 0 0 0 0 0 0 0  ;  arch  4  4  9  1  ;", 0, 1);
        read("t ide 0 0 0 0 0 0 0 0 0 0 0 0;" + ARCH, 1, 0);
        read("tide 0 0 0 0 0 0 0 0 0 0 0 00 0;" + ARCH, 1, 30);
        read("tide 0 0 0 0 0 0 0 0 0 0 0 0;;" + ARCH, 1, 29);
        ArchTrades x = new ArchTrades();
        T.due("none where none is needed", Texts.bridge(x, "tide0 0 0 0 0 0 0 0 0 0 0 0;arch4 4 9 1;boat cog3 1 0 0 0;"), 1);
        T.due("its MAST", x.boat(0, 4), 3);
    }

    /** Each NUMBER of a text in turn at its ends, and just beyond them; all others stay. */
    private static void numbers(String ahead, String[] words, int at, int least, int greatest) {
        StringBuilder s = new StringBuilder(ahead);
        for (int i = 0; i < at; i++) {
            s.append(words[i]).append(' ');
        }
        int place = s.length();
        StringBuilder rest = new StringBuilder();
        for (int i = at + 1; i < words.length; i++) {
            rest.append(' ').append(words[i]);
        }
        for (int v : new int[] {least, greatest, least - 1, greatest + 1, 99, 100, 999}) {
            if (v >= 0) {
                boolean fits = v >= least && v <= greatest;
                String text = s.toString() + v + rest;
                read(text, fits ? 0 : 2, fits ? text.split("arch").length - 1 : place);
            }
        }
    }

    private static void tideNumbers() {
        T.says("'tide' and 12 NUMBERS (0 to 20; by HOURS 0 to 11) ';'");
        String[] words = (Texts.TIDE + ARCH).replace(";", " ;").replace(";a", "; a").split(" ");
        for (int hour = 0; hour < 12; hour++) {
            numbers("", words, 1 + hour, 0, 20);
        }
        read("tide 0 0 0 0 0 0 0 0 0 0 0;" + ARCH, 1, 26);
        read("tide 0 0 0 0 0 0 0 0 0 0 0 0 0;" + ARCH, 1, 29);
        read("tide;" + ARCH, 1, 4);
        ArchTrades x = Texts.with("tide 0 1 2 3 4 5 6 7 8 9 10 11;arch 4 4 20 0;boat cog 15 0 0 0 0;");
        for (int hour = 0; hour < 12; hour++) {
            T.due("by HOURS, " + hour, x.may(0, hour), hour <= 5 ? 1 : 0);
        }
    }

    private static void archNumbers() {
        T.says("TRADES 0 to 3, or 4: nobody's, it lets by all; 1 to 30; 0 to 9; ARCHES 0 .. 5, 6 at most");
        int[] least = {0, 0, 1, 0};
        int[] greatest = {4, 4, 30, 9};
        for (int arches = 0; arches < 6; arches++) {
            for (int at = 0; at < 4; at++) {
                numbers(Texts.STILL + ARCH.repeat(arches), new String[] {"arch", "4", "4", "9", "1", ";"}, 1 + at, least[at], greatest[at]);
            }
        }
        ArchTrades x = Texts.with(Texts.STILL + "arch 0 4 1 0;" + ARCH.repeat(4) + "arch 4 0 30 9;");
        int[][] want = {{0, 4, 1, 0}, {4, 0, 30, 9}};
        for (int what = 0; what < 4; what++) {
            T.due("the first: " + what, x.arch(0, what), want[0][what]);
            T.due("the last: " + what, x.arch(5, what), want[1][what]);
        }
        read(Texts.STILL + "arch 4 4 9;", 1, 29 + 10);
        read(Texts.STILL + "arch 4 4 9 1 1;", 1, 29 + 13);
        read(Texts.STILL + "arch;", 1, 29 + 4);
    }

    private static void boatNumbers() {
        T.says("0 to 20; how much of TRADES 0 to 3 it has, 0 to 9 each; BOATS 0 .. 5, 6 at most");
        for (int boats = 0; boats < 6; boats++) {
            String ahead = Texts.STILL + ARCH + BOAT.repeat(boats);
            for (int at = 0; at < 5; at++) {
                String[] words = {"boat", "wain", "3", "1", "0", "0", "0", ";"};
                numbers(ahead, words, 2 + at, 0, at == 0 ? 20 : 9);
            }
        }
        ArchTrades x = Texts.with(Texts.STILL + ARCH + "boat barge 0 9 0 9 0;" + BOAT.repeat(4) + "boat wain 20 0 9 0 9;");
        int[][] want = {{9, 0, 9, 0, 0}, {0, 9, 0, 9, 20}};
        for (int what = 0; what < 5; what++) {
            T.due("the first: " + what, x.boat(0, what), want[0][what]);
            T.due("the last: " + what, x.boat(5, what), want[1][what]);
        }
        read(Texts.STILL + ARCH + "boat cog 3 1 0 0;", 1, 42 + 16);
        read(Texts.STILL + ARCH + "boat cog 3 1 0 0 0 0;", 1, 42 + 19);
        read(Texts.STILL + ARCH + "boat;", 1, 42 + 4);
    }

    private static void sorts() {
        T.says("SORT: 'barge' | 'cog' | 'raft' | 'cart' | 'wain'");
        String[] sorts = {"barge", "cog", "raft", "cart", "wain"};
        for (int i = 0; i < sorts.length; i++) {
            ArchTrades x = Texts.with(Texts.STILL + ARCH + "boat " + sorts[i] + " 3 1 0 0 0;");
            T.due(sorts[i], x.kind(0), 1 + i);
        }
        for (String word : new String[] {"boat", "arch", "tide", "barges", "barg", "co", "cogs", "craft", "raf", "car", "carts", "wai",
            "wains", "c", "xog", "xarge", "xaft", "dart", "vain", "Cog", "7", ";", "?"}) {
            read(Texts.STILL + ARCH + "boat " + word + " 3 1 0 0 0;", 1, 42 + 5);
        }
        read(Texts.STILL + ARCH + "boat 3 1 0 0 0;", 1, 42 + 5);
    }

    private static void howManyArches() {
        T.says("bridge: tide arch { arch } { boat }");
        read(Texts.STILL, 1, 29);
        read(Texts.STILL + BOAT, 1, 29);
        read(ARCH + Texts.STILL, 1, 0);
        read(Texts.STILL + ARCH + BOAT + ARCH, 1, 42 + 19);
        read(Texts.STILL + Texts.STILL + ARCH, 1, 29);
        read(Texts.STILL + ARCH + Texts.STILL, 1, 42);
        for (int n = 1; n <= 6; n++) {
            read(Texts.STILL + ARCH.repeat(n), 0, n);
            read(Texts.STILL + ARCH.repeat(n) + BOAT, 0, n);
        }
        T.says("3 an arch, a boat more than there is room for (its word)");
        int six = 29 + 6 * 13;
        read(Texts.STILL + ARCH.repeat(7), 3, six);
        read(Texts.STILL + ARCH.repeat(6) + "\n\n" + ARCH, 3, six + 2);
        read(Texts.STILL + ARCH.repeat(6) + "arch", 3, six);
        read(Texts.STILL + ARCH.repeat(6) + "arch 9 9 99 99;", 3, six);
        read(Texts.STILL + ARCH.repeat(6) + "arches", 1, six);
        read(Texts.STILL + ARCH.repeat(6) + BOAT + ARCH, 1, six + 19);
    }

    private static void howManyBoats() {
        T.says("3 an arch, a boat more than there is room for (its word)");
        int six = 42 + 6 * 19;
        for (int n = 0; n <= 6; n++) {
            ArchTrades x = Texts.with(Texts.STILL + ARCH + BOAT.repeat(n));
            T.due("BOATS", x.count(2), n);
            T.due("the last", x.kind(n - 1), n == 0 ? BAD : 2);
            T.due("behind the last", x.kind(n), BAD);
        }
        read(Texts.STILL + ARCH + BOAT.repeat(7), 3, six);
        read(Texts.STILL + ARCH + BOAT.repeat(6) + " boat", 3, six + 1);
        read(Texts.STILL + ARCH + BOAT.repeat(6) + "boat 9", 3, six);
        read(Texts.STILL + ARCH + BOAT.repeat(6) + ARCH, 1, six);
        read(Texts.STILL + ARCH + BOAT.repeat(6) + "7", 1, six);
        read(Texts.STILL + ARCH.repeat(6) + BOAT.repeat(6), 0, 6);
        read(Texts.STILL + ARCH.repeat(6) + BOAT.repeat(7), 3, 29 + 6 * 13 + 6 * 19);
    }

    /** TOKENS of a text, each with its place. */
    private static List<int[]> tokens(String text) {
        List<int[]> places = new ArrayList<>();
        int from = 0;
        while (from < text.length()) {
            int to = from + 1;
            while (to < text.length() && Character.isLetterOrDigit(text.charAt(from)) && Character.isLetterOrDigit(text.charAt(to))) {
                to++;
            }
            if (text.charAt(from) != ' ') {
                places.add(new int[] {from, to});
            }
            from = to;
        }
        return places;
    }

    private static void theEnd() {
        T.says("the end: how many bytes there are");
        String text = Texts.TIDE + ARCH + "boat raft 3 1 0 0 0;";
        int whole = Texts.TIDE.length() + ARCH.length();
        for (int[] token : tokens(text)) {
            if (token[0] != whole) {
                read(text.substring(0, token[0]), 1, token[0]);
                read(text.substring(0, token[0]) + " \n ", 1, token[0] + 3);
            }
        }
        read(text.substring(0, whole), 0, 1);
        read("", 1, 0);
        read(" ", 1, 1);
        read("\n\n\n", 1, 3);
    }

    private static void cannotStand() {
        T.says("1 it cannot stand there, or is none");
        String text = Texts.TIDE + ARCH + "boat raft 3 1 0 0 0;";
        for (int[] token : tokens(text)) {
            char first = text.charAt(token[0]);
            String ahead = text.substring(0, token[0]);
            String rest = text.substring(token[1]);
            if (!Character.isLetter(first)) {
                read(ahead + " boat" + rest, 1, token[0] + 1);
                read(ahead + " arch" + rest, 1, token[0] + 1);
            } else {
                read(ahead + "x" + rest, 1, token[0]);
            }
            if (!Character.isDigit(first)) {
                read(ahead + " 1" + rest, 1, token[0] + 1);
                read(ahead + " 999" + rest, 1, token[0] + 1);
            }
            if (first != ';') {
                read(ahead + ";" + rest, 1, token[0]);
            }
            read(ahead + " ?" + rest, 1, token[0] + 1);
            read(ahead + " :" + rest, 1, token[0] + 1);
            read(ahead + " 0000" + rest, 1, token[0] + 1);
        }
    }

    private static void theFirst() {
        T.says("FAULTS, the first TOKEN that has one (its first byte)");
        read("tide 21 22 x", 2, 5);
        read("tide 20 x 21", 1, 8);
        read("tide  \n 21", 2, 8);
        read("? tide 21", 1, 0);
        read(Texts.STILL + "arch 5 5 31 10;", 2, 34);
        read(Texts.STILL + "arch 4 4 0 10;", 2, 38);
        read(Texts.STILL + ARCH + "boat x 21 10", 1, 47);
        read(Texts.STILL + ARCH + "boat cog 21 x", 2, 51);
        read(Texts.STILL + ARCH.repeat(7) + "?", 3, 29 + 6 * 13);
        read(Texts.STILL + ARCH.repeat(5) + "arch 5" + ARCH.repeat(2), 2, 29 + 5 * 13 + 5);
    }

    private static void notAsTold() {
        T.says("2 a NUMBER that is not as told");
        read("tide 0 0 0 0 0 0 0 0 0 0 0 21;" + ARCH, 2, 27);
        read("tide 0 0 0 0 0 0 0 0 0 0 0 20;" + ARCH, 0, 1);
        read(Texts.STILL + "arch 5 4 9 1;", 2, 34);
        read(Texts.STILL + "arch 4 5 9 1;", 2, 36);
        read(Texts.STILL + "arch 4 4 0 1;", 2, 38);
        read(Texts.STILL + "arch 4 4 000 1;", 2, 38);
        read(Texts.STILL + "arch 4 4 1 1;", 0, 1);
        read(Texts.STILL + "arch 4 4 31 1;", 2, 38);
        read(Texts.STILL + "arch 4 4 9 10;", 2, 40);
        read(Texts.STILL + ARCH + "boat cog 21 1 0 0 0;", 2, 51);
        read(Texts.STILL + ARCH + "boat cog 20 10 0 0 0;", 2, 54);
        read(Texts.STILL + ARCH + "boat cog 20 0 0 0 010;", 2, 60);
        read(Texts.STILL + ARCH + "boat cog 20 0 0 0 009;", 0, 1);
    }

    private static void theLeast() {
        T.says("of one TOKEN the least");
        read("tide 0 0 0 0 0 0 0 0 0 0 0 0 21;" + ARCH, 1, 29);
        read("tide 1000", 1, 5);
        read("tide 999", 2, 5);
        read(Texts.STILL + "999", 1, 29);
        read(Texts.STILL + ARCH + "boat 99", 1, 47);
        read(Texts.STILL + ARCH.repeat(6) + BOAT.repeat(6) + ARCH, 1, 29 + 6 * 13 + 6 * 19);
    }

    private static void inPlace() {
        T.says("A BRIDGE that is read stands in place of the one before (none at first): HOUR 0; no ARCH is SHUT, no BOAT is GONE");
        ArchTrades x = Texts.with(Texts.STILL + ARCH.repeat(6) + BOAT.repeat(5) + "boat cart 0 1 0 0 0;");
        for (int arch = 0; arch < 6; arch++) {
            x.shut(arch, 1);
        }
        x.shut(0, 0);
        x.pass(0, 0);
        x.pass(5, 0);
        x.hour();
        T.due("read", Texts.bridge(x, Texts.STILL + ARCH.repeat(6) + BOAT.repeat(5) + "boat cart 0 1 0 0 0;"), 6);
        T.due("HOUR", x.count(3), 0);
        T.due("GONE", x.count(5), 0);
        T.due("TOLL", x.count(6), 0);
        for (int i = 0; i < 6; i++) {
            T.due("SHUT " + i, x.arch(i, 4), 0);
            T.due("below " + i, x.arch(i, 5), 0);
            T.due("above " + i, x.arch(i, 6), 0);
            T.due("GONE " + i, x.boat(i, 5), 0);
        }
        T.due("goes by again, below", x.pass(0, 0), 1);
        T.due("goes by again, above", x.pass(5, 0), 1);
        T.due("a smaller one", Texts.bridge(x, Texts.STILL + ARCH), 1);
        T.due("no more ARCHES", x.arch(1, 0), BAD);
        T.due("no more BOATS", x.kind(0), BAD);
        T.says("no ACT can be undone");
        ArchTrades y = Texts.with(Texts.STILL + ARCH);
        y.hour();
        y.shut(0, 1);
        T.due("ACTS", y.count(4), 2);
        T.due("read", Texts.bridge(y, Texts.STILL + ARCH), 1);
        T.due("no ACTS", y.count(4), 0);
        T.due("undo()", y.undo(), STATE);
    }

    private static void allStays() {
        T.says(7, "-1000100 less the place of a FAULT: all stays");
        String[] faulty = {"", "tide 21", Texts.STILL, Texts.STILL + ARCH + BOAT + "?", Texts.STILL + "arch 1 1 1 1;".repeat(7),
            Texts.STILL + ARCH + "boat raft 9 9 9 9 9;".repeat(7)};
        for (String text : faulty) {
            ArchTrades x = Texts.with(Texts.TIDE + ARCH + BOAT + "boat wain 0 2 2 0 0;");
            x.row(3, 1, 7);
            x.set(3, 7, 1);
            x.image(1);
            x.ask(0, 1);
            x.lend(0, 1, 2);
            x.pass(0, 0);
            x.split(1, 0);
            x.hour();
            T.due("a FAULT in '" + text + "'", Texts.bridge(x, text) <= FAULT ? 1 : 0, 1);
            int[] counts = {1, 1, 3, 1, 4, 1, 1, 0};
            for (int what = 0; what < 8; what++) {
                T.due("count(" + what + ")", x.count(what), counts[what]);
            }
            T.due("OVER", x.arch(0, 1), 2);
            T.due("UNDER", x.arch(0, 0), 4);
            T.due("HIGH", x.arch(0, 2), 9);
            T.due("TOLL", x.arch(0, 3), 1);
            T.due("MAST", x.boat(0, 4), 3);
            T.due("tide", x.may(0, 2) * 10 + x.may(0, 3), 10);
            T.due("status", x.status(), 2);
            T.due("trace", x.trace(1), 21);
            T.due("undo", x.undo() + x.undo() + x.undo() + x.undo(), 3 + 2 + 1);
            T.due("as it was", x.arch(0, 1), 4);
            x.shut(0, 1);
            T.due("the IMAGE", x.restore(1), 1);
            T.due("no other IMAGE", x.restore(0), STATE);
            T.due("as it was kept", x.arch(0, 4), 0);
        }
    }

    private static void latestFault() {
        T.says(8, "The number of the latest FAULT; 0 before one");
        ArchTrades x = new ArchTrades();
        T.due("before one", x.fault(), 0);
        x.feed(0, 9);
        T.due("a refused call is none", x.fault(), 0);
        T.due("read", Texts.bridge(x, Texts.STILL + ARCH), 1);
        T.due("none yet", x.fault(), 0);
        Texts.bridge(x, Texts.STILL + ARCH.repeat(7));
        T.due("3", x.fault(), 3);
        Texts.bridge(x, "tide 21");
        T.due("2", x.fault(), 2);
        T.due("read", Texts.bridge(x, Texts.STILL + ARCH), 1);
        T.due("the latest yet", x.fault(), 2);
        x.bridge();
        T.due("1", x.fault(), 1);
    }
}
