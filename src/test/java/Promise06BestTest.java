/** Promise 6: best. */
public final class Promise06BestTest {
    public static void main(String[] args) {
        Answers.runTests(Promise06BestTest.class);
    }

    static void areaWidthAndHeight(Answers a) {
        RoomLayouts x = Layouts.ordered("01|", "4x3", "2x5");
        a.due("best(0)", 30, x.best(0));
        a.due("best(1)", 6, x.best(1));
        a.due("best(2)", 5, x.best(2));
    }

    static void noneWithoutAnOrder(Answers a) {
        a.dueNoBest("no rooms", new RoomLayouts());
        a.dueNoBest("rooms with sizes", Layouts.with("1x1", "1x1"));
    }

    static void noneIfNoChoiceFits(Answers a) {
        RoomLayouts x = Layouts.ordered("01|", "4x3 3x4", "2x5 5x2");
        x.lot(4, 400);
        a.dueNoBest("too narrow for all", x);
        x.lot(400, 2);
        a.dueNoBest("too low for all", x);
        x.lot(7, 4);
        a.dueNoBest("too small for each in another way", x);
        x.lot(8, 4);
        a.dueBest("one fits", x, 8, 4);
    }

    static void anotherWhatIsIllegalArgument(Answers a) {
        RoomLayouts x = Layouts.ordered("0", "1x1");
        a.illegalOutside("what", 0, 2, x::best);
        a.dueBest("after it", x, 1, 1);
    }

    static void anotherWhatIsIllegalArgumentAlsoWithoutABest(Answers a) {
        RoomLayouts x = new RoomLayouts();
        a.illegalOutside("what without an order", 0, 2, x::best);
        RoomLayouts narrow = Layouts.ordered("0", "2x2");
        narrow.lot(1, 1);
        a.illegalOutside("what if no choice fits", 0, 2, narrow::best);
    }

    static void theLeastAndTheGreatest(Answers a) {
        a.dueBest("the least", Layouts.ordered("0", "1x1"), 1, 1);
        RoomLayouts x = Layouts.withSix("60x60");
        Layouts.order(x, "01|2|34|5|-");
        a.dueBest("wide and high", x, 180, 120);
        RoomLayouts wide = Layouts.ordered("01|2|345--|", "60x1", "60x1", "60x1", "60x60", "60x60",
                "60x60");
        a.dueBest("the greatest", wide, 240, 180);
    }

    static void theLeastAreaGoesBeforeTheLeastWidth(Answers a) {
        RoomLayouts x = Layouts.ordered("01|", "1x6 2x3 5x1", "1x6 1x3 1x1");
        a.dueOutlines("areas 12, 9 and 6", x, 2, 6, 3, 3, 6, 1);
        a.dueBest("area 6", x, 6, 1);
    }

    static void ofOneAreaTheLeastWidth(Answers a) {
        RoomLayouts same = Layouts.ordered("0", "12x1 6x2 4x3 2x6");
        a.dueBest("one area", same, 2, 6);
        same.lot(400, 5);
        a.dueBest("the least width that fits", same, 4, 3);
        same.lot(400, 1);
        a.dueBest("the only one that fits", same, 12, 1);
    }

    /** The size that makes the best choice stands at each of the four numbers by turns. */
    static void allChoicesAreLookedAt(Answers a) {
        String[] sizes = {"7x2", "5x3", "3x5", "2x8"};
        for (int turn = 0; turn < 4; turn++) {
            StringBuilder one = new StringBuilder();
            for (int k = 0; k < 4; k++) {
                one.append(k == 0 ? "" : " ").append(sizes[(k + turn) % 4]);
            }
            RoomLayouts x = Layouts.ordered("01-", one.toString(), "7x1 1x7");
            a.dueBest("turned by " + turn, x, 7, 3);
            a.due("its size", (4 - turn) % 4, x.place(0, 0));
        }
    }
}
