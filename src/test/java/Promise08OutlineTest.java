/** Promise 8: outline. */
public final class Promise08OutlineTest {
    public static void main(String[] args) {
        Answers.runTests(Promise08OutlineTest.class);
    }

    static void byTheirWidths(Answers a) {
        RoomLayouts x = Layouts.ordered("0", "4x6 1x9 9x1 2x7");
        a.dueOutlines("four sizes", x, 1, 9, 2, 7, 4, 6, 9, 1);
    }

    static void oneOutlineOfSeveralChoicesIsThereOnce(Answers a) {
        RoomLayouts x = Layouts.ordered("0", "4x3 3x4 4x3 3x4");
        a.dueOutlines("each size twice", x, 3, 4, 4, 3);
        RoomLayouts pair = Layouts.ordered("01|", "1x2 2x1", "1x2 2x1");
        a.dueOutlines("1 and 2 or 2 and 1", pair, 2, 2, 4, 1);
    }

    static void asWideButHigherIsLeftOut(Answers a) {
        a.dueOutlines("the higher one first", Layouts.ordered("0", "3x5 3x4"), 3, 4);
        a.dueOutlines("the lower one first", Layouts.ordered("0", "3x4 3x5"), 3, 4);
    }

    static void asHighButWiderIsLeftOut(Answers a) {
        a.dueOutlines("the wider one first", Layouts.ordered("0", "5x3 4x3"), 4, 3);
        a.dueOutlines("the narrower one first", Layouts.ordered("0", "4x3 5x3"), 4, 3);
    }

    static void widerAndHigherIsLeftOut(Answers a) {
        a.dueOutlines("the last lies within all", Layouts.ordered("0", "5x9 6x8 9x5 5x5"), 5, 5);
        a.dueOutlines("the first lies within all", Layouts.ordered("0", "5x5 5x9 6x8 9x5"), 5, 5);
        a.dueOutlines("by one", Layouts.ordered("0", "2x2 3x3"), 2, 2);
    }

    static void widerButLowerStays(Answers a) {
        a.dueOutlines("by one", Layouts.ordered("0", "3x3 4x2 2x4"), 2, 4, 3, 3, 4, 2);
        a.dueOutlines("of greater area", Layouts.ordered("0", "1x2 60x1"), 1, 2, 60, 1);
    }

    static void ofPartsSideBySide(Answers a) {
        RoomLayouts x = Layouts.ordered("01|", "4x3 3x4 5x3", "2x5 5x2");
        a.dueOutlines("side by side", x, 5, 5, 8, 4, 9, 3);
        RoomLayouts higher = Layouts.ordered("01|", "1x5", "1x3 2x2");
        a.dueOutlines("a lower part helps no more", higher, 2, 5);
    }

    static void ofPartsOneAboveAnother(Answers a) {
        RoomLayouts x = Layouts.ordered("01-", "4x3 3x4 5x3", "2x5 5x2");
        a.dueOutlines("one above another", x, 3, 9, 4, 8, 5, 5);
        RoomLayouts wider = Layouts.ordered("01-", "5x1", "3x1 2x2");
        a.dueOutlines("a narrower part helps no more", wider, 5, 2);
    }

    /** Where both parts are as wide (or as high), making just one of them less is no gain. */
    static void ofJoinedPartsAsWideOrAsHighNoneIsThereInVain(Answers a) {
        RoomLayouts above = Layouts.ordered("01-", "3x1 2x4", "3x1 1x5");
        a.dueOutlines("both 3 wide", above, 2, 9, 3, 2);
        RoomLayouts beside = Layouts.ordered("01|", "1x3 4x2", "1x3 5x1");
        a.dueOutlines("both 3 high", beside, 2, 3, 9, 2);
    }

    static void onlyThoseThatFit(Answers a) {
        RoomLayouts x = Layouts.ordered("01-", "4x3 3x4", "2x5 5x2");
        x.lot(4, 400);
        a.dueOutlines("the wider ones do not", x, 3, 9, 4, 8);
        x.lot(400, 8);
        a.dueOutlines("the higher ones do not", x, 4, 8, 5, 5);
        x.lot(4, 8);
        a.dueOutlines("just one does", x, 4, 8);
        x.lot(5, 9);
        a.dueOutlines("all do, just so", x, 3, 9, 4, 8, 5, 5);
    }

    static void noneIfNoneFits(Answers a) {
        RoomLayouts x = Layouts.ordered("01-", "4x3 3x4", "2x5 5x2");
        x.lot(4, 7);
        a.dueOutlines("too small for each", x);
        x.lot(2, 400);
        a.dueOutlines("too narrow", x);
        x.lot(400, 4);
        a.dueOutlines("too low", x);
    }

    static void noneWithoutAnOrder(Answers a) {
        a.dueOutlines("no rooms", new RoomLayouts());
        a.dueOutlines("rooms with sizes", Layouts.with("1x1", "2x2"));
    }

    static void noneBehindTheLast(Answers a) {
        RoomLayouts x = Layouts.ordered("0", "4x3 3x4");
        int[] behind = {2, 3, 19, 24, 25, 255, 256, 65536, Answers.MAX};
        for (int k : behind) {
            a.due("outline(" + k + ", 0)", -1, x.outline(k, 0));
            a.due("outline(" + k + ", 1)", -1, x.outline(k, 1));
        }
    }

    static void kBelow0IsIllegalArgument(Answers a) {
        RoomLayouts x = Layouts.ordered("0", "4x3 3x4");
        int[] below = {-1, -2, -255, -256, -65536, Answers.MIN, Answers.MIN + 1};
        for (int k : below) {
            a.illegalArgument("outline(" + k + ", 0)", () -> x.outline(k, 0));
            a.illegalArgument("outline(" + k + ", 1)", () -> x.outline(k, 1));
            a.illegalArgument("outline(" + k + ", 0) of a new object",
                    () -> new RoomLayouts().outline(k, 0));
        }
        a.dueOutlines("after it", x, 3, 4, 4, 3);
    }

    static void anotherWhatIsIllegalArgument(Answers a) {
        RoomLayouts x = Layouts.ordered("0", "4x3 3x4");
        a.illegalOutside("what", 0, 1, what -> x.outline(0, what));
        a.illegalOutside("what behind the last", 0, 1, what -> x.outline(Answers.MAX, what));
        a.illegalOutside("what of a new object", 0, 1, what -> new RoomLayouts().outline(0, what));
        a.illegalArgument("both wrong", () -> x.outline(-1, 2));
    }

    /** All heights are others but the least: joining drops none of 3 a room and one more. */
    static void theLongestRows(Answers a) {
        String[] joined = {"01|2|3|4|5|", "012345|||||", "01|23|45|||"};
        for (String text : joined) {
            RoomLayouts beside = new RoomLayouts();
            RoomLayouts above = new RoomLayouts();
            for (int room = 0; room < 6; room++) {
                beside.room();
                above.room();
                for (int size = 0; size < 4; size++) {
                    int side = size == 3 ? 1 : 60 - 6 * size - room;
                    beside.size(room, size + 1, side);
                    above.size(room, side, size + 1);
                }
            }
            Layouts.order(beside, text);
            Layouts.order(above, text.replace('|', '-'));
            int[] due = new int[38];
            int[] dueAbove = new int[38];
            for (int k = 0; k < 19; k++) {
                due[2 * k] = 6 + k;
                due[2 * k + 1] = k == 18 ? 1 : 60 - k;
                dueAbove[2 * (18 - k)] = due[2 * k + 1];
                dueAbove[2 * (18 - k) + 1] = due[2 * k];
            }
            a.dueOutlines(text, beside, due);
            a.dueOutlines(text + " as dashes", above, dueAbove);
            a.dueBest(text, beside, 24, 1);
            a.dueBest(text + " as dashes", above, 1, 24);
        }
    }
}
