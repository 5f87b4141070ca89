/** Promise 2: room. */
public final class Promise02RoomTest {
    public static void main(String[] args) {
        Answers.runTests(Promise02RoomTest.class);
    }

    static void itsNumberIsAnswered(Answers a) {
        RoomLayouts x = new RoomLayouts();
        for (int room = 0; room < 6; room++) {
            a.due("room()", room, x.room());
        }
    }

    static void aNewRoomHasNoSizes(Answers a) {
        RoomLayouts x = Layouts.ordered("0", "2x2");
        a.due("room()", 1, x.room());
        a.due("its digit cannot stand", 0, Layouts.order(x, "1"));
        a.due("it changes no places", false, x.swap(0, 1));
        a.due("its first size", 0, x.size(1, 3, 3));
        a.due("its digit can stand now", -1, Layouts.order(x, "1"));
    }

    static void theSixthIsThere(Answers a) {
        RoomLayouts x = Layouts.with("", "", "", "", "");
        a.due("the sixth", 5, x.room());
        a.due("its size", 0, x.size(5, 4, 2));
        a.due("its digit", -1, Layouts.order(x, "5"));
        a.duePlace("the sixth", x, 5, 0, 0, 0, 4, 2);
    }

    static void aSeventhIsIllegalState(Answers a) {
        RoomLayouts x = Layouts.withSix("1x1");
        a.illegalState("the seventh", x::room);
        a.illegalState("once more", x::room);
        a.illegalArgument("it is not there", () -> x.size(6, 1, 1));
        a.due("its digit cannot stand", 0, Layouts.order(x, "6"));
        a.due("those of the others can", -1, Layouts.order(x, "5"));
    }

    static void aRoomMoreChangesNeitherOrderNorBest(Answers a) {
        RoomLayouts x = Layouts.ordered("01|", "1x2", "3x2");
        a.dueBest("before", x, 4, 2);
        x.room();
        a.dueBest("after", x, 4, 2);
        a.dueSigns("after", x, "01|");
        a.dueNoPlace("the new one", x, 2);
    }
}
