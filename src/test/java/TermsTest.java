/** The sentences of 'Terms', and what stands ahead of the promises. */
public final class TermsTest {
    public static void main(String[] args) {
        Answers.runTests(TermsTest.class);
    }

    static void noneIsMinusOne(Answers a) {
        a.due("NONE", -1, RoomLayouts.NONE);
    }

    static void the512thCallIsStillAnswered(Answers a) {
        RoomLayouts x = Layouts.withSix("2x3");
        int calls = 12;
        for (int size = 1; size < 4; size++) {
            for (int room = 0; room < 6; room++) {
                x.size(room, 2 + size, 3 + room);
                calls++;
            }
        }
        a.due("order", -1, Layouts.order(x, "01|2-34|5-|"));
        for (int k = 0; k < 10; k++) {
            x.wish(k % 6, (k + 1) % 6, 1 + k);
        }
        calls += 11;
        for (; calls + 2 <= 508; calls += 2) {
            x.swap(calls % 6, (calls + 1) % 6);
            x.improve();
        }
        for (; calls < 508; calls++) {
            x.met();
        }
        a.due("the 509th", -1, Layouts.order(x, "05|"));
        a.due("the 510th", 4, x.best(1));
        a.due("the 511th", 3, x.wall(0, 5));
        a.due("the 512th", 12, x.best(0));
    }

    // ---- rooms and sizes

    static void roomsAre0To5AsTheyCome(Answers a) {
        RoomLayouts x = new RoomLayouts();
        for (int room = 0; room <= 5; room++) {
            int next = room;
            a.illegalArgument("size of the next room", () -> x.size(next, 1, 1));
            a.due("room()", room, x.room());
            a.due("size of the new room", 0, x.size(room, 1, 1));
        }
        a.illegalArgument("size of room 6", () -> x.size(6, 1, 1));
    }

    static void sizesAre0To3AsTheyCome(Answers a) {
        RoomLayouts x = Layouts.with("", "", "", "", "", "");
        for (int size = 0; size <= 3; size++) {
            for (int room = 5; room >= 0; room--) {
                a.due("size of room " + room, size, x.size(room, 1 + size, 1 + room));
            }
        }
    }

    static void aWidthIs1To60(Answers a) {
        RoomLayouts x = Layouts.with("");
        a.due("width 1", 0, x.size(0, 1, 30));
        a.due("width 60", 1, x.size(0, 60, 1));
        a.illegalOutside("width", 1, 60, side -> x.size(0, side, 30));
        Layouts.order(x, "0");
        a.dueOutlines("widths 1 and 60", x, 1, 30, 60, 1);
    }

    static void aHeightIs1To60(Answers a) {
        RoomLayouts x = Layouts.with("");
        a.due("height 1", 0, x.size(0, 30, 1));
        a.due("height 60", 1, x.size(0, 1, 60));
        a.illegalOutside("height", 1, 60, side -> x.size(0, 30, side));
        Layouts.order(x, "0");
        a.dueOutlines("heights 1 and 60", x, 1, 60, 30, 1);
    }

    // ---- an order

    static void eachRoomStandsOnceAtMost(Answers a) {
        RoomLayouts x = Layouts.with("1x1", "1x1");
        a.due("order 00|", 1, Layouts.order(x, "00|"));
        a.due("order 010-|", 2, Layouts.order(x, "010-|"));
        a.due("order 01|1-", 3, Layouts.order(x, "01|1-"));
    }

    static void aDigitAloneIsTheWhole(Answers a) {
        RoomLayouts x = Layouts.ordered("1", "9x9", "7x5");
        a.dueBest("order 1", x, 7, 5);
        a.duePlace("order 1", x, 1, 0, 0, 0, 7, 5);
    }

    static void theBarPutsTheFirstAtTheLeft(Answers a) {
        RoomLayouts x = Layouts.ordered("10|", "2x3", "4x1");
        a.duePlace("the first", x, 1, 0, 0, 0, 4, 1);
        a.duePlace("the second", x, 0, 0, 4, 0, 2, 3);
    }

    static void theDashPutsTheFirstBelow(Answers a) {
        RoomLayouts x = Layouts.ordered("10-", "2x3", "4x1");
        a.duePlace("the first", x, 1, 0, 0, 0, 4, 1);
        a.duePlace("the second", x, 0, 0, 0, 1, 2, 3);
    }

    static void theTwoLastPartsAreJoined(Answers a) {
        RoomLayouts x = Layouts.ordered("012|-", "1x1", "2x2", "3x3");
        a.duePlace("below both", x, 0, 0, 0, 0, 1, 1);
        a.duePlace("left of the last", x, 1, 0, 0, 1, 2, 2);
        a.duePlace("the last", x, 2, 0, 2, 1, 3, 3);
    }

    static void inTheEndThereIsJustOnePart(Answers a) {
        RoomLayouts x = Layouts.withSix("1x1");
        a.due("no part", 0, Layouts.order(x, ""));
        a.due("one part", -1, Layouts.order(x, "4"));
        a.due("two parts", 2, Layouts.order(x, "01"));
        a.due("six parts", 6, Layouts.order(x, "012345"));
        a.due("six rooms in one part", -1, Layouts.order(x, "012345|||||"));
        a.due("two parts of six rooms", 10, Layouts.order(x, "012345||||"));
    }

    // ---- outlines and corners of a choice

    static void aRoomsOutlineIsItsSize(Answers a) {
        RoomLayouts x = Layouts.ordered("0", "60x1");
        a.dueOutlines("one size", x, 60, 1);
    }

    static void besideTheWidthsAddUp(Answers a) {
        a.dueBest("the first is higher", Layouts.ordered("01|", "2x7", "3x4"), 5, 7);
        a.dueBest("the second is higher", Layouts.ordered("01|", "2x4", "3x7"), 5, 7);
        a.dueBest("both as high", Layouts.ordered("01|", "2x4", "3x4"), 5, 4);
    }

    static void oneAboveAnotherTheHeightsAddUp(Answers a) {
        a.dueBest("the first is wider", Layouts.ordered("01-", "7x2", "4x3"), 7, 5);
        a.dueBest("the second is wider", Layouts.ordered("01-", "4x2", "7x3"), 7, 5);
        a.dueBest("both as wide", Layouts.ordered("01-", "4x2", "4x3"), 4, 5);
    }

    static void aPartsCornerIsThatOfItsFirstOne(Answers a) {
        RoomLayouts x = Layouts.ordered("0123|-|", "5x5", "2x1", "3x3", "4x4");
        a.duePlace("first of the upper right", x, 1, 0, 5, 0, 2, 1);
        a.duePlace("first of the uppermost", x, 2, 0, 5, 1, 3, 3);
        a.duePlace("the last of all", x, 3, 0, 8, 1, 4, 4);
    }

    static void theSecondLiesWhereTheFirstOnesOutlineEnds(Answers a) {
        RoomLayouts right = Layouts.ordered("01-2|", "1x1", "4x1", "1x9");
        a.duePlace("not where the lowest room ends", right, 2, 0, 4, 0, 1, 9);
        a.duePlace("the lowest room", right, 0, 0, 0, 0, 1, 1);
        RoomLayouts above = Layouts.ordered("01|2-", "1x1", "1x4", "9x1");
        a.duePlace("not where the leftmost room ends", above, 2, 0, 0, 4, 9, 1);
    }

    static void theWholesCornerIsAtZero(Answers a) {
        RoomLayouts x = Layouts.ordered("32|10-|", "3x3", "4x4", "5x5", "6x6");
        a.duePlace("the first room", x, 3, 0, 0, 0, 6, 6);
        a.duePlace("the last room", x, 0, 0, 11, 4, 3, 3);
    }

    static void theWholesCornerIsAtZeroWhereAnotherPartsCornerWas(Answers a) {
        RoomLayouts x = Layouts.ordered("012||", "3x3", "4x4", "5x5");
        a.duePlace("the third part, at the right", x, 2, 0, 7, 0, 5, 5);
        Layouts.order(x, "01|");
        a.duePlace("the third part is the whole", x, 0, 0, 0, 0, 3, 3);
        a.duePlace("the third part is the whole", x, 1, 0, 3, 0, 4, 4);
        Layouts.order(x, "012--");
        a.duePlace("the third part, above", x, 2, 0, 0, 7, 5, 5);
        Layouts.order(x, "01-");
        a.duePlace("the third part is the whole again", x, 0, 0, 0, 0, 3, 3);
        a.duePlace("the third part is the whole again", x, 1, 0, 0, 3, 4, 4);
    }

    // ---- the lot

    static void aChoiceJustAsLargeAsTheLotFits(Answers a) {
        RoomLayouts x = Layouts.ordered("01|", "3x5", "4x2");
        x.lot(7, 5);
        a.dueBest("just as large", x, 7, 5);
    }

    static void aChoiceOneTooWideDoesNotFit(Answers a) {
        RoomLayouts x = Layouts.ordered("01|", "3x5", "4x2");
        x.lot(6, 400);
        a.dueNoBest("one too wide", x);
    }

    static void aChoiceOneTooHighDoesNotFit(Answers a) {
        RoomLayouts x = Layouts.ordered("01|", "3x5", "4x2");
        x.lot(400, 4);
        a.dueNoBest("one too high", x);
    }

    static void atFirstTheWidestAndTheHighestFit(Answers a) {
        RoomLayouts x = Layouts.withSix("60x60");
        Layouts.order(x, "01|2|3|4|5|");
        a.dueBest("the widest", x, 360, 60);
        Layouts.order(x, "01-2-3-4-5-");
        a.dueBest("the highest", x, 60, 360);
        Layouts.order(x, "01|2|34|5|-");
        a.dueBest("wide and high", x, 180, 120);
    }

    // ---- the best choice

    static void theBestHasTheLeastArea(Answers a) {
        RoomLayouts x = Layouts.ordered("0", "1x9 4x2 9x1 3x3");
        a.dueBest("not the least width", x, 4, 2);
        a.due("its size", 1, x.place(0, 0));
    }

    static void ofOneAreaTheBestHasTheLeastWidth(Answers a) {
        RoomLayouts x = Layouts.ordered("0", "6x2 4x3 12x1 3x4");
        a.dueBest("area 12", x, 3, 4);
        a.due("its size", 3, x.place(0, 0));
    }

    static void ofOneOutlineTheBestHasTheFirstSizeOfTheLeastRoom(Answers a) {
        RoomLayouts same = Layouts.ordered("0", "5x5 2x3 2x3 3x2");
        a.due("of two that are the same", 1, same.place(0, 0));
        // Only one of rooms 0 and 1 can be the high one beside room 2.
        String[] rooms = {"1x2 1x1", "1x2 1x1", "3x3"};
        for (String order : new String[] {"01-2|", "10-2|", "201-|", "210-|"}) {
            RoomLayouts either = Layouts.ordered(order, rooms);
            a.due(order + ", room 0's size", 0, either.place(0, 0));
            a.due(order + ", room 1's size", 1, either.place(1, 0));
        }
    }

    static void thenTheFirstSizeOfTheNextRoom(Answers a) {
        RoomLayouts x = Layouts.ordered("0123---4|", "1x1", "1x4 1x3 1x2 1x1", "1x3 1x2 1x1",
                "1x2 1x1", "2x7");
        a.dueBest("a part with slack", x, 3, 7);
        a.due("room 1's size", 0, x.place(1, 0));
        a.due("room 2's size", 2, x.place(2, 0));
        a.due("room 3's size", 1, x.place(3, 0));
        RoomLayouts next = Layouts.ordered("321--0|", "2x8", "1x4 1x3 1x2 1x1", "1x3 1x2 1x1",
                "1x2 1x1");
        a.due("room 1's size, with more slack", 0, next.place(1, 0));
        a.due("room 2's size, with more slack", 0, next.place(2, 0));
        a.due("room 3's size, with more slack", 1, next.place(3, 0));
    }

    static void aLesserSizeNumberNeverCostsAreaOrWidth(Answers a) {
        RoomLayouts x = Layouts.ordered("01|", "9x9 2x2", "1x3 1x2 1x1");
        a.dueBest("room 0's first size is too large", x, 3, 2);
        a.due("room 0's size", 1, x.place(0, 0));
        a.due("room 1's size, no higher than room 0", 1, x.place(1, 0));
    }

    static void ofAllThatFitTheBestIsChosen(Answers a) {
        RoomLayouts x = Layouts.ordered("0", "2x2 1x9 9x1 3x3");
        x.lot(400, 1);
        a.dueBest("only the lowest fits", x, 9, 1);
        x.lot(1, 400);
        a.dueBest("only the narrowest fits", x, 1, 9);
        x.lot(1, 8);
        a.dueNoBest("none fits", x);
    }

    // ---- walls

    static void aWallIsTheStretchThatBothHave(Answers a) {
        RoomLayouts x = Layouts.ordered("01-23-|", "2x2", "2x4", "2x3", "2x3");
        a.due("all of the lower one", 2, x.wall(0, 2));
        a.due("from one's beginning to the other's end", 1, x.wall(1, 2));
        a.due("all of the right one", 3, x.wall(1, 3));
        RoomLayouts turned = Layouts.ordered("01|23|-", "2x2", "4x2", "3x2", "3x2");
        a.due("all of the left one", 2, turned.wall(0, 2));
        a.due("from one's left to the other's right", 1, turned.wall(1, 2));
        a.due("all of the upper one", 3, turned.wall(1, 3));
    }

    static void aWallAlongTheMiddleOfALongerOne(Answers a) {
        RoomLayouts x = Layouts.ordered("012-3-|", "2x6", "1x1", "3x2", "1x3");
        a.due("at the lower end", 1, x.wall(0, 1));
        a.due("in the middle", 2, x.wall(0, 2));
        a.due("at the upper end", 3, x.wall(3, 0));
        RoomLayouts turned = Layouts.ordered("012|3|-", "6x2", "1x1", "2x3", "3x1");
        a.due("at the left end", 1, turned.wall(0, 1));
        a.due("in the middle above", 2, turned.wall(2, 0));
        a.due("at the right end", 3, turned.wall(0, 3));
    }

    static void withoutAStretchTheWallIsZero(Answers a) {
        RoomLayouts x = Layouts.ordered("01-23-|", "2x2", "2x4", "2x3", "2x3");
        a.due("on one line, but one ends before the other one begins", 0, x.wall(0, 3));
        RoomLayouts turned = Layouts.ordered("01|23|-", "2x2", "4x2", "3x2", "3x2");
        a.due("the same above", 0, turned.wall(0, 3));
        RoomLayouts slack = Layouts.ordered("01-2|", "1x1", "4x1", "1x9");
        a.due("a room that ends before the line", 0, slack.wall(0, 2));
        a.due("a room that ends at the line", 1, slack.wall(1, 2));
        RoomLayouts low = Layouts.ordered("01|2-", "1x1", "1x4", "9x1");
        a.due("a room that ends below the line", 0, low.wall(0, 2));
        a.due("a room that ends right below the line", 1, low.wall(1, 2));
    }

    static void aCornerIsNoWall(Answers a) {
        RoomLayouts x = Layouts.ordered("01|23|-", "2x2", "2x2", "2x2", "2x2");
        a.due("up to the right", 0, x.wall(0, 3));
        a.due("down to the left", 0, x.wall(3, 0));
        a.due("up to the left", 0, x.wall(1, 2));
        a.due("down to the right", 0, x.wall(2, 1));
        a.due("side by side", 2, x.wall(0, 1));
        a.due("one above another", 2, x.wall(1, 3));
    }

    static void roomsAtOneSideOfALineShareNoneOfIt(Answers a) {
        RoomLayouts x = Layouts.ordered("01-2-", "3x2", "3x5", "3x2");
        a.due("both left of one line, another room between", 0, x.wall(0, 2));
        a.due("only the line between them counts", 3, x.wall(0, 1));
        RoomLayouts turned = Layouts.ordered("01|2|", "2x3", "5x3", "2x3");
        a.due("both above one line, another room between", 0, turned.wall(0, 2));
        a.due("only the line between them counts, side by side", 3, turned.wall(1, 2));
    }

    // ---- wishes

    static void wishesAre10AtMost(Answers a) {
        RoomLayouts x = Layouts.with("1x1", "1x1");
        for (int k = 0; k < 10; k++) {
            a.due("wish", k, x.wish(0, 1, 1));
        }
        a.illegalState("the eleventh", () -> x.wish(0, 1, 1));
    }

    static void aWishedLengthIs1To60(Answers a) {
        RoomLayouts x = Layouts.with("1x1", "1x1");
        a.due("length 1", 0, x.wish(0, 1, 1));
        a.due("length 60", 1, x.wish(0, 1, 60));
        a.illegalOutside("length", 1, 60, length -> x.wish(0, 1, length));
    }

    static void aWallAtLeastAsLongMeetsAWish(Answers a) {
        RoomLayouts x = Layouts.ordered("01|", "1x60 1x1", "1x60");
        x.lot(2, 60);
        x.wish(0, 1, 60);
        x.wish(0, 1, 59);
        a.due("the longest, just as long", true, x.met(0));
        a.due("longer", true, x.met(1));
        RoomLayouts least = Layouts.ordered("01-", "1x60", "1x60");
        least.wish(1, 0, 1);
        least.wish(1, 0, 2);
        a.due("the least, just as long", true, least.met(0));
        a.due("one too short", false, least.met(1));
    }

    static void bothRoomsOfAMetWishAreInTheOrder(Answers a) {
        RoomLayouts x = Layouts.ordered("01|", "2x2", "2x2", "2x2", "2x2");
        x.wish(0, 2, 1);
        x.wish(2, 0, 1);
        x.wish(2, 3, 1);
        for (int wish = 0; wish < 3; wish++) {
            a.due("not both in the order", false, x.met(wish));
        }
    }

    static void wishesAreMetInTheBestChoiceAlone(Answers a) {
        RoomLayouts x = Layouts.ordered("01|", "2x5 3x3", "2x5 3x3");
        x.wish(0, 1, 4);
        a.due("a worse choice would meet it", false, x.met(0));
        x.lot(4, 400);
        a.due("now that one is the best", true, x.met(0));
    }

    // ---- exceptions

    static void ofSeveralExceptionsTheFirstNamedIsThrown(Answers a) {
        RoomLayouts x = Layouts.with("1x1 1x1 1x1 1x1", "1x1");
        for (int k = 0; k < 10; k++) {
            x.wish(0, 1, 1);
        }
        a.illegalState("size: it has 4", () -> x.size(0, 1, 1));
        a.illegalArgument("size: width too small, and it has 4", () -> x.size(0, 0, 1));
        a.illegalArgument("size: height too large, and it has 4", () -> x.size(0, 1, 61));
        a.illegalState("wish: there are 10", () -> x.wish(0, 1, 1));
        a.illegalArgument("wish: no such room, and there are 10", () -> x.wish(2, 1, 1));
        a.illegalArgument("wish: no such other room, and there are 10", () -> x.wish(0, -1, 1));
        a.illegalArgument("wish: both are one, and there are 10", () -> x.wish(1, 1, 1));
        a.illegalArgument("wish: too short, and there are 10", () -> x.wish(0, 1, 0));
        a.illegalArgument("wish: too long, and there are 10", () -> x.wish(0, 1, 61));
    }
}
