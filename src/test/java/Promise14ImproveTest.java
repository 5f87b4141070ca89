/** Promise 14: improve. */
public final class Promise14ImproveTest {
    public static void main(String[] args) {
        Answers.runTests(Promise14ImproveTest.class);
    }

    private static void dueImproved(Answers a, String when, RoomLayouts x, String signs) {
        a.due(when, true, x.improve());
        a.dueSigns(when, x, signs);
    }

    private static void dueNotImproved(Answers a, String when, RoomLayouts x, String signs) {
        a.due(when, false, x.improve());
        a.dueSigns(when, x, signs);
    }

    // ---- what is better than now

    static void lessAreaIsBetter(Answers a) {
        RoomLayouts x = Layouts.ordered("01|2-", "4x1", "1x1", "1x4");
        a.dueBest("before", x, 5, 5);
        dueImproved(a, "two rooms of the order", x, "21|0-");
        a.dueBest("after", x, 4, 5);
    }

    static void lessAreaByOneIsBetter(Answers a) {
        dueImproved(a, "13 and 12", Layouts.ordered("0", "13x1", "4x3"), "1");
        dueImproved(a, "3600 and 3540", Layouts.ordered("0", "60x60", "59x60"), "1");
    }

    static void asMuchAreaIsNotBetter(Answers a) {
        RoomLayouts x = Layouts.ordered("0", "3x4", "2x6", "3x4");
        dueNotImproved(a, "less width does not count", x, "0");
        a.due("size", 1, x.size(1, 11, 1));
        dueImproved(a, "less area does", x, "1");
    }

    static void aWishMoreIsBetterWithMoreArea(Answers a) {
        RoomLayouts x = Layouts.ordered("01|", "2x2", "2x2", "60x60");
        dueNotImproved(a, "without wishes", x, "01|");
        x.wish(0, 2, 1);
        dueImproved(a, "a wish more", x, "02|");
        dueNotImproved(a, "a wish less, with less area", x, "02|");
    }

    static void aWishLessIsNotBetterWithLessArea(Answers a) {
        RoomLayouts x = Layouts.ordered("01|", "5x5", "5x5", "1x1");
        x.wish(0, 1, 5);
        dueNotImproved(a, "the wish keeps them", x, "01|");
        a.due("met()", 1, x.met());
    }

    static void asManyWishesWithLessAreaIsBetter(Answers a) {
        RoomLayouts x = Layouts.ordered("01|2|", "2x2", "2x2", "9x9", "1x1");
        x.wish(0, 1, 2);
        dueImproved(a, "the wish is still met", x, "01|3|");
        RoomLayouts other = Layouts.ordered("01|", "2x2", "9x9", "1x1");
        other.wish(0, 1, 2);
        other.wish(0, 2, 1);
        dueImproved(a, "another wish is met", other, "02|");
    }

    static void asManyWishesWithAsMuchAreaIsNotBetter(Answers a) {
        RoomLayouts x = Layouts.ordered("01|", "2x2", "2x2", "2x2");
        x.wish(0, 1, 2);
        x.wish(0, 2, 2);
        dueNotImproved(a, "all are alike", x, "01|");
    }

    // ---- no best choice is worse than any

    static void fromNoBestChoiceAnyIsBetter(Answers a) {
        RoomLayouts x = Layouts.ordered("0", "4x4", "9x1", "3x3", "2x8");
        x.lot(3, 3);
        a.dueNoBest("nothing fits", x);
        dueImproved(a, "one that fits", x, "2");
        RoomLayouts more = Layouts.ordered("0", "2x1", "1x60");
        more.lot(1, 60);
        dueImproved(a, "one of more area that fits", more, "1");
    }

    static void fromNoBestChoiceAnyIsBetterAlsoWithWishes(Answers a) {
        RoomLayouts x = Layouts.ordered("0", "4x4", "3x3");
        x.wish(0, 1, 1);
        x.lot(3, 3);
        dueImproved(a, "no wish met before and after", x, "1");
    }

    static void fromNoBestChoiceAGreatAreaIsBetterToo(Answers a) {
        RoomLayouts x = Layouts.ordered("01|2|345--|", "60x60", "60x60", "60x60", "60x60", "60x60",
                "59x60");
        x.lot(239, 180);
        a.dueNoBest("one too wide", x);
        dueImproved(a, "the narrow room goes into the row", x, "51|2|340--|");
        a.dueBest("just as large as the lot", x, 239, 180);
    }

    static void toNoBestChoiceIsNeverBetter(Answers a) {
        RoomLayouts x = Layouts.ordered("0", "3x3", "4x1", "1x4");
        x.lot(3, 3);
        dueNotImproved(a, "less area, but none fits", x, "0");
        RoomLayouts wished = Layouts.ordered("01|", "3x3", "3x3", "1x7");
        wished.wish(0, 2, 1);
        wished.lot(6, 6);
        dueNotImproved(a, "its wish would be met if it fitted", wished, "01|");
    }

    static void fromNoBestChoiceToNoneIsNotBetter(Answers a) {
        RoomLayouts x = Layouts.ordered("0", "3x3", "2x2", "4x1");
        x.lot(1, 1);
        dueNotImproved(a, "none fits", x, "0");
        x.wish(0, 1, 1);
        dueNotImproved(a, "none fits, with a wish", x, "0");
    }

    // ---- which pair of several

    static void mostWishesGoBeforeLeastArea(Answers a) {
        RoomLayouts x = Layouts.ordered("01|", "1x1", "1x1", "5x5", "6x6");
        x.wish(0, 2, 1);
        x.wish(1, 3, 1);
        x.wish(3, 1, 1);
        dueImproved(a, "two wishes with more area", x, "31|");
        a.due("met()", 2, x.met());
    }

    static void ofAsManyWishesTheLeastArea(Answers a) {
        RoomLayouts x = Layouts.ordered("01|", "1x1", "9x9", "3x3", "2x2");
        x.wish(0, 2, 1);
        x.wish(0, 3, 1);
        dueImproved(a, "the later pair has less area", x, "03|");
        RoomLayouts first = Layouts.ordered("01|", "1x1", "9x9", "2x2", "3x3");
        first.wish(0, 2, 1);
        first.wish(0, 3, 1);
        dueImproved(a, "the earlier pair has less area", first, "02|");
    }

    static void withoutWishesTheLeastArea(Answers a) {
        dueImproved(a, "the last", Layouts.ordered("0", "4x4", "3x3", "2x2", ""), "2");
        dueImproved(a, "the first", Layouts.ordered("0", "4x4", "2x2", "3x3", ""), "1");
        dueImproved(a, "by one", Layouts.ordered("0", "9x9", "3x5", "2x7", "5x3"), "2");
    }

    static void ofPairsAsGoodTheFirst(Answers a) {
        RoomLayouts x = Layouts.ordered("0", "4x4", "3x3", "3x3", "3x3");
        dueImproved(a, "by the other one's number", x, "1");
        RoomLayouts lesser = Layouts.ordered("01|", "4x4", "4x4", "3x3", "3x3");
        dueImproved(a, "by the lesser one's number", lesser, "21|");
    }

    /** The pairs 0, 3 and 1, 2 are as good: the lesser number goes before the other one's. */
    static void theLesserNumberGoesBeforeTheOther(Answers a) {
        RoomLayouts x = Layouts.ordered("01|", "2x4", "4x2", "2x4", "4x2");
        a.dueBest("before", x, 6, 4);
        dueImproved(a, "0 and 3", x, "31|");
        a.dueBest("after", x, 8, 2);
        RoomLayouts turned = Layouts.ordered("10|", "4x2", "2x4", "4x2", "2x4");
        dueImproved(a, "0 and 3, from the right", turned, "13|");
    }

    static void ofPairsAsGoodWithWishesTheFirst(Answers a) {
        RoomLayouts x = Layouts.ordered("01|", "2x2", "2x2", "2x2", "2x2");
        x.wish(1, 3, 1);
        x.wish(0, 2, 1);
        dueImproved(a, "0 and 3 meets the first wish", x, "31|");
    }

    static void theLastPairIsLookedAt(Answers a) {
        RoomLayouts x = Layouts.ordered("01|2|3|4|", "1x1", "1x1", "1x1", "1x1", "9x9", "1x1");
        dueImproved(a, "4 and 5", x, "01|2|3|5|");
    }

    static void theFirstPairIsLookedAt(Answers a) {
        RoomLayouts x = Layouts.ordered("0", "9x9", "1x1");
        dueImproved(a, "0 and 1", x, "1");
    }

    // ---- it is done

    static void onePairACall(Answers a) {
        RoomLayouts x = Layouts.ordered("01|", "4x4", "4x4", "1x1", "1x1");
        dueImproved(a, "the first call", x, "21|");
        dueImproved(a, "the second call", x, "23|");
        dueNotImproved(a, "the third call", x, "23|");
    }

    static void bestAndPlacesFollowAtOnce(Answers a) {
        RoomLayouts x = Layouts.ordered("01|", "4x4", "3x3", "2x1 1x2");
        a.dueBest("before", x, 7, 4);
        a.duePlace("before", x, 1, 0, 4, 0, 3, 3);
        dueImproved(a, "improve()", x, "21|");
        a.dueBest("after", x, 4, 3);
        a.duePlace("after", x, 2, 1, 0, 0, 1, 2);
        a.duePlace("after", x, 1, 0, 1, 0, 3, 3);
        a.dueNoPlace("after", x, 0);
        a.dueOutlines("after", x, 4, 3);
    }

    // ---- false, changing nothing

    static void falseWithoutAnOrder(Answers a) {
        dueNotImproved(a, "no rooms", new RoomLayouts(), "");
        RoomLayouts x = Layouts.with("2x2", "1x1");
        x.wish(0, 1, 1);
        dueNotImproved(a, "rooms", x, "");
    }

    static void falseWithOneRoom(Answers a) {
        dueNotImproved(a, "one room", Layouts.ordered("0", "2x2"), "0");
    }

    static void falseIfTheOthersHaveNoSizes(Answers a) {
        dueNotImproved(a, "no sizes", Layouts.ordered("0", "2x2", "", ""), "0");
        RoomLayouts last = Layouts.with("", "", "2x2");
        Layouts.order(last, "2");
        dueNotImproved(a, "lesser ones have none", last, "2");
    }

    static void falseChangesNothing(Answers a) {
        RoomLayouts x = Layouts.ordered("01|2-", "2x5 3x3", "2x5 3x3", "4x4 6x6", "", "7x7");
        x.wish(0, 2, 2);
        String before = Layouts.allOf(x, 5, 1);
        a.due("no pair is better", false, x.improve());
        a.due("nothing has changed", before, Layouts.allOf(x, 5, 1));
    }
}
