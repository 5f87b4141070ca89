/** The promises one by one: ordinary inputs, the edges of the document, and wrong inputs. */
public final class PromisesTest {
    private static final Answers answers = new Answers();
    private static final int MIN = Integer.MIN_VALUE;
    private static final int MAX = Integer.MAX_VALUE;

    public static void main(String[] args) {
        aNewObject();
        rooms();
        sizes();
        theLot();
        ordersThatAre();
        ordersThatAreNot();
        bytesOfTheOrder();
        theBest();
        theFirstOfSeveral();
        placesOfRooms();
        outlines();
        theLongestRowsOfOutlines();
        walls();
        wallsThatCornersAreNot();
        wishes();
        metWishes();
        swaps();
        improvements();
        improvementsFromNoBestChoice();
        signs();
        answers.end();
    }

    // ---- helpers

    /** An object with rooms; each text is a room's sizes, as in "4x3 3x4". */
    private static RoomLayouts with(String... rooms) {
        RoomLayouts made = new RoomLayouts();
        for (String sizes : rooms) {
            int room = made.room();
            for (String size : sizes.split(" ")) {
                int cross = size.indexOf('x');
                if (cross > 0) {
                    made.size(room, Integer.parseInt(size.substring(0, cross)),
                            Integer.parseInt(size.substring(cross + 1)));
                }
            }
        }
        return made;
    }

    private static int order(RoomLayouts layouts, String text) {
        return layouts.order(word(text, 0), word(text, 8));
    }

    private static long word(String text, int from) {
        long word = 0;
        for (int k = from; k < text.length() && k < from + 8; k++) {
            word = word << 8 | text.charAt(k);
        }
        return word;
    }

    private static void dueBest(String call, RoomLayouts layouts, int width, int height) {
        answers.due(call + " best(0)", width * height, layouts.best(0));
        answers.due(call + " best(1)", width, layouts.best(1));
        answers.due(call + " best(2)", height, layouts.best(2));
    }

    private static void dueNoBest(String call, RoomLayouts layouts) {
        for (int what = 0; what <= 2; what++) {
            answers.due(call + " best(" + what + ")", -1, layouts.best(what));
        }
    }

    private static void duePlace(String call, RoomLayouts layouts, int room, int... place) {
        for (int what = 0; what <= 4; what++) {
            answers.due(call + " place(" + room + ", " + what + ")",
                    place[place.length == 1 ? 0 : what], layouts.place(room, what));
        }
    }

    private static void dueOutlines(String call, RoomLayouts layouts, int... sides) {
        for (int k = 0; k < sides.length / 2; k++) {
            answers.due(call + " outline(" + k + ", 0)", sides[2 * k], layouts.outline(k, 0));
            answers.due(call + " outline(" + k + ", 1)", sides[2 * k + 1], layouts.outline(k, 1));
        }
        for (int what = 0; what <= 1; what++) {
            answers.due(call + " outline after the last", -1, layouts.outline(sides.length / 2, what));
            answers.due(call + " outline(MAX)", -1, layouts.outline(MAX, what));
        }
    }

    private static void dueSigns(String call, RoomLayouts layouts, String text) {
        for (int k = 0; k < text.length(); k++) {
            answers.due(call + " sign(" + k + ")", text.charAt(k), layouts.sign(k));
        }
        answers.due(call + " sign after the last", -1, layouts.sign(text.length()));
    }

    // ---- promise 1

    private static void aNewObject() {
        RoomLayouts x = new RoomLayouts();
        dueNoBest("new", x);
        dueOutlines("new", x);
        dueSigns("new", x, "");
        answers.due("new met()", 0, x.met());
        answers.due("new improve()", false, x.improve());
        answers.illegalArgument("new size", () -> x.size(0, 1, 1));
        answers.illegalArgument("new place", () -> x.place(0, 0));
        answers.illegalArgument("new wall", () -> x.wall(0, 1));
        answers.illegalArgument("new wish", () -> x.wish(0, 1, 1));
        answers.illegalArgument("new met(0)", () -> x.met(0) ? 1 : 0);
        answers.illegalArgument("new swap", () -> x.swap(0, 1) ? 1 : 0);
        RoomLayouts other = with("1x1");
        order(other, "0");
        dueNoBest("another object's order", x);
    }

    // ---- promise 2

    private static void rooms() {
        RoomLayouts x = new RoomLayouts();
        for (int k = 0; k < 6; k++) {
            answers.due("room()", k, x.room());
        }
        answers.illegalState("a seventh room()", x::room);
        answers.illegalState("a seventh room() again", x::room);
        answers.due("a new room has no size", 0, order(x, "5"));
        answers.illegalArgument("the seventh is not there", () -> x.size(6, 1, 1));
        answers.due("the sixth is there", 0, x.size(5, 1, 1));
    }

    // ---- promise 3

    private static void sizes() {
        RoomLayouts x = with("", "7x7");
        int[] wrongSides = {0, 61, -1, MIN, MAX};
        for (int side : wrongSides) {
            answers.illegalArgument("size width " + side, () -> x.size(0, side, 1));
            answers.illegalArgument("size height " + side, () -> x.size(0, 1, side));
        }
        int[] wrongRooms = {-1, 2, 6, MIN, MAX};
        for (int room : wrongRooms) {
            answers.illegalArgument("size of room " + room, () -> x.size(room, 1, 1));
        }
        answers.due("no wrong size was kept", 0, order(x, "0"));
        answers.due("size 0", 0, x.size(0, 60, 60));
        answers.due("size 1", 1, x.size(0, 60, 60));
        answers.due("size 2", 2, x.size(0, 1, 60));
        answers.due("size 3", 3, x.size(0, 60, 1));
        answers.illegalState("a fifth size", () -> x.size(0, 1, 1));
        answers.illegalArgument("a fifth size that is wrong too", () -> x.size(0, 0, 1));
        answers.due("order 0", -1, order(x, "0"));
        dueBest("no fifth size", x, 1, 60);
        answers.due("another room's sizes are its own", 1, x.size(1, 2, 2));
        answers.due("order 1", -1, order(x, "1"));
        dueBest("before a size more", x, 2, 2);
        answers.due("a size of a room in the order", 2, x.size(1, 1, 3));
        dueBest("after a size more", x, 1, 3);
    }

    // ---- promise 4

    private static void theLot() {
        RoomLayouts x = with("4x3 3x4 2x7", "60x1", "60x1", "60x1", "60x1", "60x1");
        order(x, "0");
        x.lot(3, 4);
        dueBest("the lot just as large", x, 3, 4);
        int[] wrongSides = {0, 401, -1, MIN, MAX};
        for (int side : wrongSides) {
            answers.illegalArgument("lot width " + side, () -> { x.lot(side, 400); return 0; });
            answers.illegalArgument("lot height " + side, () -> { x.lot(400, side); return 0; });
        }
        dueOutlines("a wrong lot is not kept", x, 3, 4);
        x.lot(2, 7);
        dueBest("a lot for a larger area", x, 2, 7);
        x.lot(2, 6);
        dueNoBest("a lot too low", x);
        x.lot(1, 400);
        dueNoBest("a lot too narrow", x);
        x.lot(400, 2);
        dueNoBest("a lot too low for all", x);
        x.lot(400, 400);
        dueBest("the greatest lot", x, 3, 4);
        x.lot(1, 1);
        x.size(0, 1, 1);
        dueBest("the least lot", x, 1, 1);
        RoomLayouts wide = with("60x60", "60x60", "60x60", "60x60", "60x60", "60x60");
        order(wide, "01|2|3|4|5|");
        dueBest("the first lot is 400 wide", wide, 360, 60);
        order(wide, "01-2-3-4-5-");
        dueBest("the first lot is 400 high", wide, 60, 360);
        wide.lot(60, 359);
        dueNoBest("one too low", wide);
        wide.lot(60, 360);
        dueBest("high enough", wide, 60, 360);
    }

    // ---- promise 5

    private static void ordersThatAre() {
        RoomLayouts x = with("1x1", "2x2", "3x3", "4x4", "5x5", "6x6");
        String[] orders = {"0", "5", "01|", "10-", "012||", "01|2-", "01|23|-", "012345-----",
            "01|2|3|4|5|", "543210|-|-|", "50|41-32|-|"};
        for (String text : orders) {
            answers.due("order " + text, -1, order(x, text));
            dueSigns("order " + text, x, text);
        }
    }

    private static void ordersThatAreNot() {
        RoomLayouts x = with("1x1", "2x2", "3x3", "", "5x5");
        order(x, "01|");
        String[] texts = {"", "3", "5", "9", "a", "|", "-", "0|", "00|", "01", "012", "012|", "01||",
            "01|-", "01|0-", "013|-", "015|-", "01/", "01|\u00ff", "0 1|", "01|2", "01|24--|",
            "0120||", "4210---|", "4210---3|-", ":", "/", "01+", "\u00b0", "0\u007c", "0:|"};
        int[] faults = {0, 0, 0, 0, 0, 0, 0, 1, 1, 2, 3, 4, 3,
            3, 3, 2, 2, 2, 3, 1, 4, 7,
            3, 7, 7, 0, 0, 2, 0, 1, 1};
        for (int k = 0; k < texts.length; k++) {
            answers.due("order " + texts[k], faults[k], order(x, texts[k]));
            dueSigns("after order " + texts[k], x, "01|");
            dueBest("after order " + texts[k], x, 3, 2);
        }
        answers.due("sixteen bytes", 1, x.order(0x3030303030303030L, 0x3030303030303030L));
        answers.due("bytes that are all ones", 0, x.order(-1L, -1L));
        answers.due("least words", 0, x.order(Long.MIN_VALUE, Long.MIN_VALUE));
        dueSigns("after wrong words", x, "01|");
    }

    private static void bytesOfTheOrder() {
        RoomLayouts x = with("1x1", "2x2");
        answers.due("zeros at the front", -1, x.order(0x30317cL, 0L));
        answers.due("zeros at the end", -1, x.order(0x30317c0000000000L, 0L));
        answers.due("zeros between", -1, x.order(0x3000310000000000L, 0x7c00L));
        dueSigns("zeros between", x, "01|");
        answers.due("all in the second word", -1, x.order(0L, 0x003100302dL));
        dueSigns("all in the second word", x, "10-");
        answers.due("the first word comes first", -1, x.order(0x30L, 0x317cL));
        dueSigns("the first word comes first", x, "01|");
        answers.due("a fault is counted without zeros", 1, x.order(0x3000000000000000L, 0x30L));
        answers.due("how many there are, without zeros", 2, x.order(0x3000000000000000L, 0x31L));
        answers.due("a highest byte with its sign", 2, x.order(0x30L, 0x3100000000000080L));
        dueSigns("after faults", x, "01|");
    }

    // ---- promise 6

    private static void theBest() {
        RoomLayouts x = with("4x3 3x4", "2x5 5x2");
        dueNoBest("without an order", x);
        order(x, "0");
        dueBest("one room", x, 3, 4);
        order(x, "01|");
        dueBest("side by side", x, 5, 5);
        order(x, "01-");
        dueBest("one above another", x, 5, 5);
        int[] wrong = {-1, 3, MIN, MAX};
        for (int what : wrong) {
            answers.illegalArgument("best(" + what + ")", () -> x.best(what));
            answers.illegalArgument("best(" + what + ") of a new one",
                    () -> new RoomLayouts().best(what));
        }
        RoomLayouts narrow = with("6x2 4x3 12x1 3x4 ");
        order(narrow, "0");
        dueBest("of one area the least width", narrow, 3, 4);
        narrow.lot(400, 3);
        dueBest("the least width that fits", narrow, 4, 3);
    }

    private static void theFirstOfSeveral() {
        RoomLayouts x = with("2x2 2x2", "1x3 1x2 1x1");
        order(x, "01|");
        dueBest("room 1 has slack", x, 3, 2);
        duePlace("room 0's first", x, 0, 0, 0, 0, 2, 2);
        duePlace("room 1's first that fits in", x, 1, 1, 2, 0, 1, 2);
        RoomLayouts turned = with("1x3 1x2 1x1", "2x2 2x2");
        order(turned, "10|");
        duePlace("the least room's number counts, not its place", turned, 0, 1, 2, 0, 1, 2);
        RoomLayouts either = with("1x2 1x1", "1x2 1x1", "3x3");
        order(either, "01-2|");
        dueBest("one of two can be high", either, 4, 3);
        answers.due("room 0 chooses first", 0, either.place(0, 0));
        answers.due("room 1 then has one left", 1, either.place(1, 0));
        order(either, "10-2|");
        answers.due("room 0 chooses first from above", 0, either.place(0, 0));
        answers.due("and room 1 below", 1, either.place(1, 0));
    }

    // ---- promise 7

    private static void placesOfRooms() {
        RoomLayouts x = with("1x1 9x9", "4x3", "2x6", "");
        duePlace("without an order", x, 0, -1);
        order(x, "12|0-");
        duePlace("first of all", x, 1, 0, 0, 0, 4, 3);
        duePlace("at the right", x, 2, 0, 4, 0, 2, 6);
        duePlace("above", x, 0, 0, 0, 6, 1, 1);
        duePlace("not in the order", x, 3, -1);
        order(x, "012-|");
        duePlace("right and above", x, 2, 0, 1, 3, 2, 6);
        duePlace("right", x, 1, 0, 1, 0, 4, 3);
        x.lot(4, 400);
        duePlace("no choice fits", x, 0, -1);
        int[] wrongRooms = {-1, 4, 6, MIN, MAX};
        for (int room : wrongRooms) {
            answers.illegalArgument("place of room " + room, () -> x.place(room, 0));
        }
        int[] wrong = {-1, 5, MIN, MAX};
        for (int what : wrong) {
            answers.illegalArgument("place of what " + what, () -> x.place(0, what));
        }
    }

    // ---- promise 8

    private static void outlines() {
        RoomLayouts x = with("4x3 3x4 5x3 4x3", "2x5 5x2", "");
        dueOutlines("without an order", x);
        order(x, "0");
        dueOutlines("a size within another, and one twice", x, 3, 4, 4, 3);
        order(x, "01|");
        dueOutlines("side by side", x, 5, 5, 8, 4, 9, 3);
        order(x, "01-");
        dueOutlines("one above another", x, 3, 9, 4, 8, 5, 5);
        x.lot(4, 8);
        dueOutlines("just one fits", x, 4, 8);
        x.lot(4, 400);
        dueOutlines("the wider ones do not fit", x, 3, 9, 4, 8);
        x.lot(400, 7);
        dueOutlines("the higher ones do not fit", x, 5, 5);
        x.lot(4, 4);
        dueOutlines("none fits", x);
        answers.illegalArgument("outline(-1, 0)", () -> x.outline(-1, 0));
        answers.illegalArgument("outline(MIN, 0)", () -> x.outline(MIN, 0));
        answers.illegalArgument("outline(0, -1)", () -> x.outline(0, -1));
        answers.illegalArgument("outline(0, 2)", () -> x.outline(0, 2));
        answers.illegalArgument("outline(MAX, 2)", () -> x.outline(MAX, 2));
        x.lot(400, 400);
        answers.due("the best choice is settled", 5, x.best(1));
        answers.due("place", 0, x.place(0, 0));
        dueOutlines("after the places are known", x, 3, 9, 4, 8, 5, 5);
    }

    /** All heights are others but the least: joining drops none of 3 a room and one more. */
    private static void theLongestRowsOfOutlines() {
        RoomLayouts beside = new RoomLayouts();
        RoomLayouts above = new RoomLayouts();
        for (int room = 0; room < 6; room++) {
            beside.room();
            above.room();
            for (int size = 0; size < 4; size++) {
                int side = size == 3 ? 1 : 60 - 6 * size - room;
                beside.size(room, size + 1, side);
                above.size(room, side, size + 1);
            }
        }
        String[] joined = {"01|2|3|4|5|", "012345|||||", "01|23|45|||"};
        for (String text : joined) {
            order(beside, text);
            order(above, text.replace('|', '-'));
            for (int k = 0; k < 19; k++) {
                int along = 6 + k;
                int across = k == 18 ? 1 : 60 - k;
                answers.due(text + " outline(" + k + ", 0)", along, beside.outline(k, 0));
                answers.due(text + " outline(" + k + ", 1)", across, beside.outline(k, 1));
                answers.due(text + " outline(" + (18 - k) + ", 0) above", across, above.outline(18 - k, 0));
                answers.due(text + " outline(" + (18 - k) + ", 1) above", along, above.outline(18 - k, 1));
            }
            answers.due(text + " outline(19, 0)", -1, beside.outline(19, 0));
            answers.due(text + " outline(19, 0) above", -1, above.outline(19, 0));
            dueBest(text, beside, 24, 1);
            dueBest(text + " above", above, 1, 24);
        }
    }

    // ---- promise 9

    private static void walls() {
        RoomLayouts x = with("4x3", "2x6", "5x5", "1x1", "");
        answers.due("wall without an order", -1, x.wall(0, 1));
        order(x, "01|2-");
        answers.due("left and right", 3, x.wall(0, 1));
        answers.due("right and left", 3, x.wall(1, 0));
        answers.due("below and above", 1, x.wall(1, 2));
        answers.due("above and below", 1, x.wall(2, 1));
        answers.due("a gap between", 0, x.wall(0, 2));
        answers.due("one is not in the order", -1, x.wall(0, 3));
        answers.due("the other one is not in the order", -1, x.wall(3, 0));
        answers.due("one has no size", -1, x.wall(0, 4));
        x.lot(5, 5);
        answers.due("no choice fits", -1, x.wall(0, 1));
        answers.illegalArgument("both are one", () -> x.wall(0, 0));
        answers.illegalArgument("both are one, not in the order", () -> x.wall(3, 3));
        int[] wrongRooms = {-1, 5, 6, MIN, MAX};
        for (int room : wrongRooms) {
            answers.illegalArgument("wall of " + room, () -> x.wall(room, 0));
            answers.illegalArgument("wall with " + room, () -> x.wall(0, room));
        }
    }

    private static void wallsThatCornersAreNot() {
        RoomLayouts x = with("2x2", "2x2", "2x2", "2x2");
        order(x, "01|23|-");
        answers.due("a corner", 0, x.wall(0, 3));
        answers.due("the other corner", 0, x.wall(1, 2));
        answers.due("sides", 2, x.wall(0, 1));
        answers.due("on top", 2, x.wall(1, 3));
        RoomLayouts across = with("3x1", "3x4", "2x2", "5x3");
        order(across, "02-13-|");
        answers.due("walls of parts of parts", 1, across.wall(0, 1));
        answers.due("the inner end is at 2, not at 3", 0, across.wall(2, 1));
        answers.due("apart", 0, across.wall(0, 3));
    }

    // ---- promise 10

    private static void wishes() {
        RoomLayouts x = with("2x2", "", "3x3");
        int[] wrongRooms = {-1, 3, 6, MIN, MAX};
        for (int room : wrongRooms) {
            answers.illegalArgument("wish of " + room, () -> x.wish(room, 0, 1));
            answers.illegalArgument("wish with " + room, () -> x.wish(0, room, 1));
        }
        int[] wrongLengths = {0, 61, -1, MIN, MAX};
        for (int length : wrongLengths) {
            answers.illegalArgument("wish of length " + length, () -> x.wish(0, 1, length));
        }
        answers.illegalArgument("wish of one", () -> x.wish(0, 0, 1));
        for (int k = 0; k < 10; k++) {
            answers.due("wish", k, x.wish(k % 3, (k + 1) % 3, k == 0 ? 60 : k));
        }
        answers.illegalState("an eleventh", () -> x.wish(0, 1, 1));
        answers.illegalArgument("an eleventh that is wrong too", () -> x.wish(0, 1, 0));
        answers.illegalArgument("an eleventh of one", () -> x.wish(1, 1, 1));
        answers.due("the tenth is there", false, x.met(9));
        answers.illegalArgument("the eleventh is not", () -> x.met(10) ? 1 : 0);
    }

    // ---- promises 11 and 12

    private static void metWishes() {
        RoomLayouts x = with("4x3", "2x6", "5x5", "1x1");
        answers.illegalArgument("met(0) without wishes", () -> x.met(0) ? 1 : 0);
        x.wish(0, 1, 3);
        x.wish(1, 0, 4);
        x.wish(2, 1, 1);
        x.wish(0, 3, 1);
        x.wish(0, 2, 1);
        answers.due("without an order", 0, x.met());
        answers.due("without an order", false, x.met(0));
        order(x, "01|2-");
        boolean[] due = {true, false, true, false, false};
        for (int k = 0; k < due.length; k++) {
            answers.due("met(" + k + ")", due[k], x.met(k));
        }
        answers.due("met()", 2, x.met());
        int[] wrong = {-1, 5, 9, 10, MIN, MAX};
        for (int wish : wrong) {
            answers.illegalArgument("met(" + wish + ")", () -> x.met(wish) ? 1 : 0);
        }
        x.lot(5, 5);
        answers.due("no choice fits", 0, x.met());
        answers.due("no choice fits", false, x.met(0));
        x.lot(400, 400);
        order(x, "03|");
        answers.due("one of two rooms is in the order", false, x.met(0));
        answers.due("a wall of 1", true, x.met(3));
        answers.due("met() of the new order", 1, x.met());
    }

    // ---- promise 13

    private static void swaps() {
        RoomLayouts x = with("4x3", "2x6", "5x5", "", "7x1");
        answers.due("without an order", false, x.swap(0, 1));
        order(x, "01|2-");
        answers.due("both in the order", true, x.swap(0, 2));
        dueSigns("both in the order", x, "21|0-");
        dueBest("both in the order", x, 7, 9);
        duePlace("both in the order", x, 0, 0, 0, 6, 4, 3);
        answers.due("the second one is not in it", true, x.swap(1, 4));
        dueSigns("the second one is not in it", x, "24|0-");
        duePlace("gone from the order", x, 1, -1);
        duePlace("new in the order", x, 4, 0, 5, 0, 7, 1);
        answers.due("the first one is not in it", true, x.swap(1, 2));
        dueSigns("the first one is not in it", x, "14|0-");
        answers.due("one has no size", false, x.swap(0, 3));
        answers.due("the first has no size", false, x.swap(3, 0));
        order(x, "0");
        answers.due("neither is in it", false, x.swap(1, 2));
        answers.due("neither, and one has no size", false, x.swap(1, 3));
        dueSigns("nothing has changed", x, "0");
        dueBest("nothing has changed", x, 4, 3);
        answers.illegalArgument("both are one", () -> x.swap(0, 0) ? 1 : 0);
        answers.illegalArgument("both are one without a size", () -> x.swap(3, 3) ? 1 : 0);
        int[] wrongRooms = {-1, 5, 6, MIN, MAX};
        for (int room : wrongRooms) {
            answers.illegalArgument("swap of " + room, () -> x.swap(room, 0) ? 1 : 0);
            answers.illegalArgument("swap with " + room, () -> x.swap(0, room) ? 1 : 0);
        }
        x.lot(1, 1);
        answers.due("a swap that no choice fits", true, x.swap(0, 1));
        dueSigns("a swap that no choice fits", x, "1");
        dueNoBest("a swap that no choice fits", x);
    }

    // ---- promise 14

    private static void improvements() {
        RoomLayouts x = with("4x4", "3x3", "2x2", "");
        order(x, "0");
        answers.due("less area", true, x.improve());
        dueSigns("the least area, at once", x, "2");
        answers.due("no less area", false, x.improve());
        dueSigns("no less area", x, "2");

        RoomLayouts first = with("4x4", "3x3", "3x3");
        order(first, "0");
        answers.due("two pairs as good", true, first.improve());
        dueSigns("the first pair", first, "1");
        answers.due("as good is not better", false, first.improve());

        RoomLayouts wished = with("2x2", "2x2", "9x9", "8x8");
        order(wished, "01|");
        answers.due("no wishes, the least area", false, wished.improve());
        wished.wish(0, 2, 1);
        answers.due("a wish met, with more area", true, wished.improve());
        dueSigns("a wish met, with more area", wished, "02|");
        answers.due("the wish keeps it", false, wished.improve());
        wished.wish(1, 3, 1);
        answers.due("as many wishes", false, wished.improve());
        wished.wish(2, 3, 8);
        wished.wish(3, 2, 8);
        answers.due("more wishes with more area", true, wished.improve());
        dueSigns("more wishes with more area", wished, "32|");
        answers.due("most wishes", 2, wished.met());

        RoomLayouts most = with("1x1", "1x1", "5x5", "6x6");
        order(most, "01|");
        most.wish(0, 2, 1);
        most.wish(1, 3, 1);
        most.wish(3, 1, 1);
        answers.due("the most wishes before the least area", true, most.improve());
        dueSigns("the most wishes before the least area", most, "31|");

        answers.due("no order", false, with("1x1", "2x2").improve());
        RoomLayouts unsized = with("4x4", "");
        order(unsized, "0");
        answers.due("the only other one has no size", false, unsized.improve());
    }

    private static void improvementsFromNoBestChoice() {
        RoomLayouts x = with("4x4", "9x1", "3x3", "2x8");
        order(x, "0");
        x.lot(3, 3);
        dueNoBest("nothing fits", x);
        answers.due("one that fits", true, x.improve());
        dueSigns("one that fits", x, "2");
        answers.due("less area, but it does not fit", false, x.improve());
        x.lot(1, 1);
        answers.due("none fits before and after", false, x.improve());
        dueSigns("none fits before and after", x, "2");
        x.lot(9, 1);
        x.wish(0, 1, 1);
        answers.due("one that fits, no wish met", true, x.improve());
        dueSigns("one that fits, no wish met", x, "1");
    }

    // ---- promise 15

    private static void signs() {
        RoomLayouts x = with("1x1", "1x1", "1x1", "1x1", "1x1", "1x1");
        answers.due("sign(0) without an order", -1, x.sign(0));
        order(x, "01|23-|45-|");
        dueSigns("eleven signs", x, "01|23-|45-|");
        answers.due("sign(MAX)", -1, x.sign(MAX));
        answers.due("sign(16)", -1, x.sign(16));
        answers.illegalArgument("sign(-1)", () -> x.sign(-1));
        answers.illegalArgument("sign(MIN)", () -> x.sign(MIN));
        order(x, "5");
        dueSigns("a shorter order", x, "5");
        order(x, "55|");
        dueSigns("no order", x, "5");
    }
}
