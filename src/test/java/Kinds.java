import java.util.List;

/** The KINDS as classes of Java, so that Java itself finds the BODY that begins. */
final class Kinds {
    private Kinds() {
    }

    static Any of(int kind) {
        switch (kind) {
            case 1: return new Barge();
            case 2: return new Cog();
            case 3: return new Raft();
            case 4: return new Cart();
            case 5: return new Wain();
            default: return new Any();
        }
    }

    static class Any {
        int number;
        int all;
        int mast;
        List<Integer> trace;

        void begin(int number, int all, int mast, List<Integer> trace) {
            this.number = number;
            this.all = all;
            this.mast = mast;
            this.trace = trace;
        }

        boolean is(int kind) {
            return of(kind).getClass().isInstance(this);
        }

        int size() {
            trace.add(10);
            return all;
        }

        int mark() {
            trace.add(20);
            return number;
        }
    }

    static class Barge extends Any {
        @Override
        int size() {
            trace.add(11);
            return super.size() + mark();
        }

        @Override
        int mark() {
            trace.add(21);
            return super.mark() + mast;
        }
    }

    static final class Cog extends Barge {
        @Override
        int mark() {
            trace.add(22);
            return super.mark() - 1000;
        }
    }

    static final class Raft extends Barge {
        @Override
        int size() {
            trace.add(12);
            return 0 - super.size();
        }

        @Override
        int mark() {
            trace.add(24);
            return 2 * super.mark();
        }
    }

    static class Cart extends Any {
        @Override
        int size() {
            trace.add(13);
            return super.size() - 100;
        }

        @Override
        int mark() {
            trace.add(23);
            return super.mark() - size();
        }
    }

    static final class Wain extends Cart {
        @Override
        int size() {
            trace.add(14);
            return 2 * super.size();
        }
    }
}
