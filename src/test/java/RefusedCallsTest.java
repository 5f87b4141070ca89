import java.util.LinkedHashMap;
import java.util.Map;

/** Terms: a call that throws changes nothing; nor does one that answers that it could not. */
public final class RefusedCallsTest {
    private interface CallOn {
        long answer(RoomLayouts x);
    }

    private interface Maker {
        RoomLayouts made();
    }

    public static void main(String[] args) {
        Answers.runTests(RefusedCallsTest.class);
    }

    /** Four of six rooms in the order, room 3 without a size, room 0 with four; ten wishes. */
    private static RoomLayouts full() {
        RoomLayouts x = Layouts.ordered("01|2-4|", "4x3 3x4 2x7 6x2", "2x5 5x2", "3x3", "",
                "1x9 9x1 3x3", "8x8");
        x.lot(12, 11);
        for (int k = 0; k < 10; k++) {
            x.wish(k % 5, (k + 2) % 6, 1 + k / 3);
        }
        return x;
    }

    /** Two of three rooms in the order, with a wish. */
    private static RoomLayouts partly() {
        RoomLayouts x = Layouts.ordered("01|", "4x3 3x4", "2x5 5x2", "");
        x.wish(0, 1, 2);
        return x;
    }

    private static Map<String, CallOn> wrongArguments() {
        Map<String, CallOn> calls = new LinkedHashMap<>();
        calls.put("size of no room", x -> x.size(6, 1, 1));
        calls.put("size of room -1", x -> x.size(-1, 1, 1));
        calls.put("size of width 0", x -> x.size(1, 0, 1));
        calls.put("size of width 61", x -> x.size(1, 61, 1));
        calls.put("size of height 0", x -> x.size(1, 1, 0));
        calls.put("size of height 61", x -> x.size(2, 1, 61));
        calls.put("lot of width 0", x -> Layouts.lot(x, 0, 1));
        calls.put("lot of width 401", x -> Layouts.lot(x, 401, 1));
        calls.put("lot of height 0", x -> Layouts.lot(x, 1, 0));
        calls.put("lot of height 401", x -> Layouts.lot(x, 1, 401));
        calls.put("best(3)", x -> x.best(3));
        calls.put("best(-1)", x -> x.best(-1));
        calls.put("place of no room", x -> x.place(6, 0));
        calls.put("place of what 5", x -> x.place(0, 5));
        calls.put("outline(-1, 0)", x -> x.outline(-1, 0));
        calls.put("outline(0, 2)", x -> x.outline(0, 2));
        calls.put("wall(0, 0)", x -> x.wall(0, 0));
        calls.put("wall(0, 6)", x -> x.wall(0, 6));
        calls.put("wish of no room", x -> x.wish(6, 0, 1));
        calls.put("wish with no room", x -> x.wish(0, -1, 1));
        calls.put("wish of one", x -> x.wish(1, 1, 1));
        calls.put("wish of length 0", x -> x.wish(0, 1, 0));
        calls.put("wish of length 61", x -> x.wish(0, 1, 61));
        calls.put("met(-1)", x -> Layouts.number(x.met(-1)));
        calls.put("met(10)", x -> Layouts.number(x.met(10)));
        calls.put("swap(0, 0)", x -> Layouts.number(x.swap(0, 0)));
        calls.put("swap(0, 6)", x -> Layouts.number(x.swap(0, 6)));
        calls.put("swap(-1, 1)", x -> Layouts.number(x.swap(-1, 1)));
        calls.put("sign(-1)", x -> x.sign(-1));
        return calls;
    }

    /** The same whether or not something has been read, and so worked out, before the call. */
    private static void dueUnchanged(Answers a, String call, int thrown, CallOn made, Maker maker,
            int rooms, int wishes) {
        String before = Layouts.allOf(maker.made(), rooms, wishes);
        String next = nextNumbers(maker.made(), rooms);
        RoomLayouts unread = maker.made();
        a.due(call + " throws", thrown, Answers.thrownBy(() -> made.answer(unread)));
        a.due("after " + call, before, Layouts.allOf(unread, rooms, wishes));
        RoomLayouts read = maker.made();
        Layouts.allOf(read, rooms, wishes);
        a.due(call + " throws after reading", thrown, Answers.thrownBy(() -> made.answer(read)));
        a.due("after " + call + " and reading", before, Layouts.allOf(read, rooms, wishes));
        a.due("numbers after " + call, next, nextNumbers(read, rooms));
    }

    /** What can be told only by adding to it: how many rooms, sizes and wishes there are. */
    private static String nextNumbers(RoomLayouts x, int rooms) {
        StringBuilder next = new StringBuilder("sizes");
        for (int room = 0; room < rooms; room++) {
            int of = room;
            int[] number = {-1};
            Answers.thrownBy(() -> number[0] = x.size(of, 2, 2));
            next.append(' ').append(number[0]);
        }
        int[] number = {-1};
        Answers.thrownBy(() -> number[0] = x.wish(0, 1, 1));
        next.append(" wish ").append(number[0]);
        number[0] = -1;
        Answers.thrownBy(() -> number[0] = x.room());
        return next.append(" room ").append(number[0]).toString();
    }

    static void illegalArgumentsChangeNothing(Answers a) {
        for (Map.Entry<String, CallOn> call : wrongArguments().entrySet()) {
            dueUnchanged(a, call.getKey(), Answers.ILLEGAL_ARGUMENT, call.getValue(),
                    RefusedCallsTest::full, 6, 10);
            dueUnchanged(a, call.getKey(), Answers.ILLEGAL_ARGUMENT, call.getValue(),
                    RefusedCallsTest::partly, 3, 1);
        }
    }

    static void illegalArgumentsOfANewObjectChangeNothing(Answers a) {
        for (Map.Entry<String, CallOn> call : wrongArguments().entrySet()) {
            dueUnchanged(a, call.getKey(), Answers.ILLEGAL_ARGUMENT, call.getValue(),
                    RoomLayouts::new, 0, 0);
        }
    }

    static void aSeventhRoomChangesNothing(Answers a) {
        dueUnchanged(a, "room()", Answers.ILLEGAL_STATE, RoomLayouts::room,
                RefusedCallsTest::full, 6, 10);
    }

    static void aFifthSizeChangesNothing(Answers a) {
        dueUnchanged(a, "size", Answers.ILLEGAL_STATE, x -> x.size(0, 1, 1),
                RefusedCallsTest::full, 6, 10);
    }

    static void anEleventhWishChangesNothing(Answers a) {
        dueUnchanged(a, "wish", Answers.ILLEGAL_STATE, x -> x.wish(0, 1, 1),
                RefusedCallsTest::full, 6, 10);
    }

    static void aTextThatIsNoOrderChangesNothing(Answers a) {
        String[] texts = {"", "01", "3", "00|", "10|2-4", "10|2-4||", "54|3-", "5|"};
        for (String text : texts) {
            dueUnchanged(a, "order " + text, Answers.NOTHING, x -> Layouts.order(x, text),
                    RefusedCallsTest::full, 6, 10);
        }
    }

    static void aSwapThatIsFalseChangesNothing(Answers a) {
        int[][] pairs = {{0, 3}, {3, 0}, {5, 3}, {3, 5}};
        for (int[] pair : pairs) {
            dueUnchanged(a, "swap " + pair[0] + " " + pair[1], Answers.NOTHING,
                    x -> Layouts.number(x.swap(pair[0], pair[1])), RefusedCallsTest::full, 6, 10);
        }
    }

    static void anImproveThatIsFalseChangesNothing(Answers a) {
        a.due("improve()", false, partly().improve());
        dueUnchanged(a, "improve()", Answers.NOTHING, x -> Layouts.number(x.improve()),
                RefusedCallsTest::partly, 3, 1);
    }

    static void callsThatOnlyReadChangeNothing(Answers a) {
        Map<String, CallOn> calls = new LinkedHashMap<>();
        calls.put("best(0)", x -> x.best(0));
        calls.put("place(1, 1)", x -> x.place(1, 1));
        calls.put("outline(0, 1)", x -> x.outline(0, 1));
        calls.put("wall(0, 1)", x -> x.wall(0, 1));
        calls.put("met(0)", x -> Layouts.number(x.met(0)));
        calls.put("met()", RoomLayouts::met);
        calls.put("sign(0)", x -> x.sign(0));
        for (Map.Entry<String, CallOn> call : calls.entrySet()) {
            dueUnchanged(a, call.getKey(), Answers.NOTHING, call.getValue(),
                    RefusedCallsTest::full, 6, 10);
        }
    }
}
