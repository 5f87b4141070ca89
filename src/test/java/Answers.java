/** Compares answers with those that are due, and tells at the end whether one was wrong. */
final class Answers {
    static final int NOTHING = 0;
    static final int ILLEGAL_ARGUMENT = 1;
    static final int ILLEGAL_STATE = 2;

    interface Call {
        long answer();
    }

    private int wrong = 0;
    private int asked = 0;

    void due(String call, long want, long got) {
        asked++;
        if (got != want) {
            wrong++;
            System.out.println(call + " answered " + got + ", due is " + want);
        }
    }

    void due(String call, boolean want, boolean got) {
        due(call, want ? 1 : 0, got ? 1 : 0);
    }

    /** A call that has to throw an IllegalArgumentException. */
    void illegalArgument(String call, Call made) {
        due(call + " throws", ILLEGAL_ARGUMENT, thrownBy(made));
    }

    /** A call that has to throw an IllegalStateException. */
    void illegalState(String call, Call made) {
        due(call + " throws", ILLEGAL_STATE, thrownBy(made));
    }

    static int thrownBy(Call made) {
        try {
            made.answer();
            return NOTHING;
        } catch (IllegalArgumentException e) {
            // A subclass of it would not be the one that the document names.
            return e.getClass() == IllegalArgumentException.class ? ILLEGAL_ARGUMENT : 3;
        } catch (IllegalStateException e) {
            return e.getClass() == IllegalStateException.class ? ILLEGAL_STATE : 4;
        }
    }

    void end() {
        System.out.println(asked + " answers, " + wrong + " wrong");
        if (wrong != 0 || asked == 0) {
            System.exit(1);
        }
    }
}
