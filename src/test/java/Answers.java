import java.lang.reflect.InvocationTargetException;
import java.lang.reflect.Method;
import java.lang.reflect.Modifier;
import java.util.Map;
import java.util.TreeMap;

/** Compares answers with those that are due, and tells at the end whether one was wrong. */
final class Answers {
    static final int NOTHING = 0;
    static final int ILLEGAL_ARGUMENT = 1;
    static final int ILLEGAL_STATE = 2;
    static final int MIN = Integer.MIN_VALUE;
    static final int MAX = Integer.MAX_VALUE;

    interface Call {
        long answer();
    }

    interface CallWith {
        long answer(int number);
    }

    private int wrong = 0;
    private int asked = 0;
    private String test = "";

    /** Runs every test of a class, so that none can be forgotten: each takes the answers alone. */
    static void runTests(Class<?> tests) {
        Map<String, Method> found = new TreeMap<>();
        for (Method method : tests.getDeclaredMethods()) {
            Class<?>[] takes = method.getParameterTypes();
            if (!Modifier.isPrivate(method.getModifiers())
                    && takes.length == 1 && takes[0] == Answers.class) {
                found.put(method.getName(), method);
            }
        }
        Answers answers = new Answers();
        for (Method method : found.values()) {
            answers.runTest(method);
        }
        System.out.println(found.size() + " tests");
        answers.end();
    }

    private void runTest(Method method) {
        test = method.getDeclaringClass().getName() + "." + method.getName() + ": ";
        int before = asked;
        try {
            method.invoke(null, this);
        } catch (InvocationTargetException e) {
            fail("threw " + e.getCause());
        } catch (IllegalAccessException e) {
            fail("cannot be called");
        }
        if (asked == before) {
            fail("asked nothing");
        }
    }

    private void fail(String how) {
        wrong++;
        System.out.println(test + how);
    }

    void due(String call, long want, long got) {
        asked++;
        if (got != want) {
            fail(call + " answered " + got + ", due is " + want);
        }
    }

    void due(String call, boolean want, boolean got) {
        due(call, want ? 1 : 0, got ? 1 : 0);
    }

    void due(String call, String want, String got) {
        asked++;
        if (!got.equals(want)) {
            fail(call + " answered " + got + ", due is " + want);
        }
    }

    /** A call that has to throw an IllegalArgumentException. */
    void illegalArgument(String call, Call made) {
        due(call + " throws", ILLEGAL_ARGUMENT, thrownBy(made));
    }

    /** A call that has to throw an IllegalStateException. */
    void illegalState(String call, Call made) {
        due(call + " throws", ILLEGAL_STATE, thrownBy(made));
    }

    /** Numbers just outside the bounds, far outside, and such as come inside by a wrap-around. */
    void illegalOutside(String call, int least, int most, CallWith made) {
        int[] outside = {least - 1, most + 1, -1 - least, MIN, MIN + least, MAX,
            least + 256, least + 65536, most - 256, most - 65536};
        for (int number : outside) {
            if (number < least || number > most) {
                illegalArgument(call + " with " + number, () -> made.answer(number));
            }
        }
    }

    static int thrownBy(Call made) {
        try {
            made.answer();
            return NOTHING;
        } catch (IllegalArgumentException e) {
            // A subclass of it would not be the one that the document names.
            return e.getClass() == IllegalArgumentException.class ? ILLEGAL_ARGUMENT : 3;
        } catch (IllegalStateException e) {
            return e.getClass() == IllegalStateException.class ? ILLEGAL_STATE : 4;
        }
    }

    // ---- several answers of an object at once

    void dueBest(String when, RoomLayouts x, int width, int height) {
        due(when + ", best(0)", width * height, x.best(0));
        due(when + ", best(1)", width, x.best(1));
        due(when + ", best(2)", height, x.best(2));
    }

    void dueNoBest(String when, RoomLayouts x) {
        for (int what = 0; what <= 2; what++) {
            due(when + ", best(" + what + ")", -1, x.best(what));
        }
    }

    void duePlace(String when, RoomLayouts x, int room, int... place) {
        for (int what = 0; what <= 4; what++) {
            due(when + ", place(" + room + ", " + what + ")", place[what], x.place(room, what));
        }
    }

    void dueNoPlace(String when, RoomLayouts x, int room) {
        duePlace(when, x, room, -1, -1, -1, -1, -1);
    }

    /** All outlines, as widths and heights by turns, and that there are no more of them. */
    void dueOutlines(String when, RoomLayouts x, int... sides) {
        int count = sides.length / 2;
        for (int k = 0; k < count; k++) {
            due(when + ", outline(" + k + ", 0)", sides[2 * k], x.outline(k, 0));
            due(when + ", outline(" + k + ", 1)", sides[2 * k + 1], x.outline(k, 1));
        }
        due(when + ", outline(" + count + ", 0)", -1, x.outline(count, 0));
        due(when + ", outline(" + count + ", 1)", -1, x.outline(count, 1));
    }

    /** All signs, and that there are no more of them. */
    void dueSigns(String when, RoomLayouts x, String text) {
        for (int k = 0; k < text.length(); k++) {
            due(when + ", sign(" + k + ")", text.charAt(k), x.sign(k));
        }
        due(when + ", sign(" + text.length() + ")", -1, x.sign(text.length()));
    }

    void end() {
        System.out.println(asked + " answers, " + wrong + " wrong");
        if (wrong != 0 || asked == 0) {
            System.exit(1);
        }
    }
}
