/** Promise 1: no rooms, no order. */
public final class Promise01NewObjectTest {
    public static void main(String[] args) {
        Answers.runTests(Promise01NewObjectTest.class);
    }

    static void itHasNoRooms(Answers a) {
        RoomLayouts x = new RoomLayouts();
        a.illegalOutside("size", 0, -1, room -> x.size(room, 1, 1));
        a.illegalOutside("place", 0, -1, room -> x.place(room, 0));
        a.illegalArgument("size of room 0", () -> x.size(0, 1, 1));
        a.illegalArgument("place of room 0", () -> x.place(0, 0));
        a.illegalArgument("wall", () -> x.wall(0, 1));
        a.illegalArgument("wish", () -> x.wish(0, 1, 1));
        a.illegalArgument("swap", () -> Layouts.number(x.swap(0, 1)));
        a.due("order of room 0", 0, Layouts.order(x, "0"));
        a.due("the first room", 0, x.room());
    }

    static void itHasNoOrder(Answers a) {
        RoomLayouts x = new RoomLayouts();
        a.dueNoBest("new", x);
        a.dueOutlines("new", x);
        a.dueSigns("new", x, "");
        a.due("improve()", false, x.improve());
    }

    static void itHasNoWishes(Answers a) {
        RoomLayouts x = new RoomLayouts();
        a.due("met()", 0, x.met());
        a.illegalArgument("met(0)", () -> Layouts.number(x.met(0)));
    }

    static void roomsAndSizesAloneMakeNoOrder(Answers a) {
        RoomLayouts x = Layouts.with("1x1", "2x2");
        a.dueNoBest("rooms", x);
        a.dueSigns("rooms", x, "");
        a.dueNoPlace("rooms", x, 0);
    }

    static void anotherObjectsRoomsAreItsOwn(Answers a) {
        RoomLayouts x = new RoomLayouts();
        RoomLayouts other = Layouts.ordered("01|", "1x1", "2x2");
        other.wish(0, 1, 1);
        other.lot(3, 2);
        a.dueNoBest("beside another one", x);
        a.dueSigns("beside another one", x, "");
        a.due("room()", 0, x.room());
        a.due("size", 0, x.size(0, 9, 9));
        Layouts.order(x, "0");
        a.dueBest("the lot is its own", x, 9, 9);
        a.dueBest("the other one has not changed", other, 3, 2);
        a.due("the other one's wish", 1, other.met());
    }
}
