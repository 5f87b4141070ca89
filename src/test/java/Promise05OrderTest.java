/** Promise 5: order. */
public final class Promise05OrderTest {
    public static void main(String[] args) {
        Answers.runTests(Promise05OrderTest.class);
    }

    private static void dueFaults(Answers a, RoomLayouts x, Object... textsAndFaults) {
        for (int k = 0; k + 1 < textsAndFaults.length; k += 2) {
            String text = (String) textsAndFaults[k];
            a.due("order " + text, (Integer) textsAndFaults[k + 1], Layouts.order(x, text));
        }
    }

    // ---- its bytes

    static void theHighestByteComesFirst(Answers a) {
        RoomLayouts x = Layouts.with("1x1", "2x2", "3x3", "4x4");
        a.due("seven signs at the top", -1, x.order(0x30317c32337c2d00L, 0L));
        a.dueSigns("seven signs at the top", x, "01|23|-");
        a.due("the same backwards", 0, x.order(0x002d7c33327c3130L, 0L));
        a.due("eight bytes, the last of them wrong", 7, x.order(0x30317c32337c2d30L, 0L));
    }

    static void theSecondWordsBytesComeAfterTheFirstOnes(Answers a) {
        RoomLayouts x = Layouts.with("1x1", "2x2", "3x3", "4x4", "5x5");
        a.due("eight and one", -1, x.order(0x30317c32337c2d34L, 0x7c00000000000000L));
        a.dueSigns("eight and one", x, "01|23|-4|");
        a.due("one and two", -1, x.order(0x31L, 0x302dL));
        a.dueSigns("one and two", x, "10-");
        a.due("the words the other way round", 1, x.order(0x302dL, 0x31L));
    }

    static void bytesThatAre0AreLeftOut(Answers a) {
        RoomLayouts x = Layouts.with("1x1", "2x2");
        a.due("at the front", -1, x.order(0x30317cL, 0L));
        a.dueSigns("at the front", x, "01|");
        a.due("at the end", -1, x.order(0x31302d0000000000L, 0L));
        a.dueSigns("at the end", x, "10-");
        a.due("between", -1, x.order(0x3000310000000000L, 0x7c00L));
        a.dueSigns("between", x, "01|");
        a.due("the whole first word", -1, x.order(0L, 0x003100302dL));
        a.dueSigns("the whole first word", x, "10-");
        a.due("the whole second word", -1, x.order(0x003000003100007cL, 0L));
        a.dueSigns("the whole second word", x, "01|");
    }

    static void aFaultsNumberLeavesOutBytesThatAre0(Answers a) {
        RoomLayouts x = Layouts.with("1x1", "2x2");
        a.due("the first byte", 0, x.order(0L, 0x7c00L));
        a.due("the second byte", 1, x.order(0x3000000000000000L, 0x30L));
        a.due("how many there are", 2, x.order(0x3000000000000000L, 0x31L));
        a.due("the last byte of the second word", 3, x.order(0x3000310000007c00L, 0x7cL));
    }

    static void aByteWithTheHighestBitIsNoSign(Answers a) {
        RoomLayouts x = Layouts.with("1x1", "2x2");
        a.due("bytes that are all ones", 0, x.order(-1L, -1L));
        a.due("the least word", 0, x.order(Long.MIN_VALUE, 0L));
        a.due("the least word as the second", 0, x.order(0L, Long.MIN_VALUE));
        a.due("after two digits", 2, x.order(0x30L, 0x3180000000000000L));
        a.due("a digit with it", 2, x.order(0x3031b0L, 0x7cL));
        a.due("a bar with it", 2, x.order(0x3031fcL, 0L));
        a.due("a dash with it", 2, x.order(0x3031adL, 0L));
    }

    /** Every byte that is not 0, as the first one and after two digits. */
    static void onlyDigitsOfRoomsBarAndDashAreSigns(Answers a) {
        for (int sign = 1; sign <= 255; sign++) {
            RoomLayouts x = Layouts.withSix("1x1");
            boolean joins = sign == '|' || sign == '-';
            boolean isRoom = sign >= '0' && sign <= '5';
            a.due("first byte " + sign, isRoom ? -1 : 0, x.order(sign, 0L));
            boolean isNew = isRoom && sign >= '2';
            a.due("third byte " + sign, joins ? -1 : isNew ? 3 : 2, x.order(0x3031L, sign));
        }
    }

    // ---- when it is one

    static void noneIfItIsOneAndThenItIsTheOrder(Answers a) {
        RoomLayouts x = Layouts.with("1x1", "2x2", "3x3", "4x4", "5x5", "6x6");
        String[] orders = {"0", "5", "01|", "10-", "012||", "01|2-", "01|23|-", "012345-----",
            "01|2|3|4|5|", "543210|-|-|", "50|41-32|-|"};
        for (String text : orders) {
            a.due("order " + text, -1, Layouts.order(x, text));
            a.dueSigns("order " + text, x, text);
        }
    }

    static void theSameOrderAgainIsOne(Answers a) {
        RoomLayouts x = Layouts.ordered("01|", "1x1", "2x2");
        a.due("the same again", -1, Layouts.order(x, "01|"));
        a.dueSigns("the same again", x, "01|");
    }

    static void aNewOrderTakesThePlaceOfTheOldOne(Answers a) {
        RoomLayouts x = Layouts.ordered("01|2-", "1x1", "2x2", "3x3");
        a.dueBest("the old one", x, 3, 5);
        a.due("a shorter one", -1, Layouts.order(x, "1"));
        a.dueSigns("a shorter one", x, "1");
        a.dueBest("a shorter one", x, 2, 2);
        a.dueNoPlace("a room of the old one", x, 0);
        a.due("a longer one", -1, Layouts.order(x, "20|1|"));
        a.duePlace("a room of both", x, 1, 0, 4, 0, 2, 2);
    }

    static void anOrderThatNoChoiceFitsIsOne(Answers a) {
        RoomLayouts x = Layouts.ordered("0", "1x1", "2x2");
        x.lot(1, 1);
        a.due("too large for the lot", -1, Layouts.order(x, "1"));
        a.dueSigns("too large for the lot", x, "1");
        a.dueNoBest("too large for the lot", x);
    }

    // ---- the first byte that cannot stand

    static void aDigitOfARoomThatIsNotThere(Answers a) {
        RoomLayouts x = Layouts.with("1x1", "1x1");
        dueFaults(a, x, "2", 0, "5", 0, "6", 0, "9", 0, "02|", 1, "01|2-", 3, "016|-", 2);
        x.room();
        x.size(2, 1, 1);
        dueFaults(a, x, "01|2-", -1);
    }

    static void aDigitBeyondTheSixRooms(Answers a) {
        RoomLayouts x = Layouts.withSix("1x1");
        dueFaults(a, x, "5", -1, "6", 0, "7", 0, "8", 0, "9", 0, ":", 0, "/", 0, "06|", 1);
    }

    static void aDigitOfARoomWithoutASize(Answers a) {
        RoomLayouts x = Layouts.with("1x1", "", "1x1");
        dueFaults(a, x, "1", 0, "01|", 1, "021|-", 2);
        x.size(1, 1, 1);
        dueFaults(a, x, "021|-", -1);
    }

    static void aDigitThatWasThere(Answers a) {
        RoomLayouts x = Layouts.withSix("1x1");
        dueFaults(a, x, "00", 1, "55|", 1, "010||", 2, "01|0-", 3, "01|1-", 3, "012345----0", 10);
    }

    static void aDigitOfTheOldOrderMayStandInTheNewOne(Answers a) {
        RoomLayouts x = Layouts.ordered("01|", "1x1", "1x1");
        dueFaults(a, x, "011", 2, "10|", -1, "0", -1, "1", -1, "01-", -1);
    }

    static void aBarOrADashWithoutTwoPartsBeforeIt(Answers a) {
        RoomLayouts x = Layouts.with("1x1", "1x1", "1x1");
        dueFaults(a, x, "|", 0, "-", 0, "0|", 1, "0-", 1, "0|1", 1, "01||", 3, "01|-", 3,
                "01--", 3, "01-|", 3, "012|-|", 5, "01|2--", 5, "01|-2", 3);
    }

    static void theFirstOfSeveralFaultsCounts(Answers a) {
        RoomLayouts x = Layouts.with("1x1", "1x1", "");
        dueFaults(a, x, "0|2a", 1, "02|", 1, "a0", 0, "00||", 1, "01a|0", 2);
    }

    static void aByteThatCannotStandGoesBeforeTheNumberOfParts(Answers a) {
        RoomLayouts x = Layouts.with("1x1", "1x1", "1x1");
        dueFaults(a, x, "0120", 3, "012a", 3, "01x", 2);
    }

    static void howManyThereAreIfMoreThanOnePartIsLeft(Answers a) {
        RoomLayouts x = Layouts.withSix("1x1");
        dueFaults(a, x, "01", 2, "012", 3, "012|", 4, "01|2", 4, "01|23|", 6, "012345", 6,
                "012345||||", 10);
    }

    static void zeroWithoutAnyByte(Answers a) {
        RoomLayouts x = Layouts.ordered("0", "1x1");
        a.due("no bytes", 0, x.order(0L, 0L));
        a.dueSigns("no bytes", x, "0");
        a.due("no bytes of a new object", 0, new RoomLayouts().order(0L, 0L));
    }

    static void sixteenBytes(Answers a) {
        RoomLayouts x = Layouts.withSix("1x1");
        dueFaults(a, x, "01|2|3|4|5||||||", 11, "01|2|3|4|5|-----", 11, "01|2|3|4|5|00000", 11,
                "012345-----66666", 11, "0000000000000000", 1, "||||||||||||||||", 0,
                "012345012345||||", 6);
        a.dueSigns("none of them is one", x, "");
    }

    // ---- nothing changes

    static void nothingChangesIfItIsNone(Answers a) {
        String[] texts = {"", "3", "5", "|", "0|", "00|", "01", "012|", "01||", "01|2", "10", "a",
            "01|24|", "4210---|"};
        for (String text : texts) {
            RoomLayouts x = Layouts.ordered("01|2-", "1x2", "2x2", "3x1", "", "5x5");
            String before = Layouts.allOf(x, 5, 0);
            a.due("order " + text + " is none", false, Layouts.order(x, text) == -1);
            a.due("after order " + text, before, Layouts.allOf(x, 5, 0));
        }
    }

    static void withoutAnOrderThereStillIsNone(Answers a) {
        RoomLayouts x = Layouts.with("1x1", "2x2");
        a.due("order 01", 2, Layouts.order(x, "01"));
        a.dueSigns("after 01", x, "");
        a.dueNoBest("after 01", x);
        a.due("order 0|", 1, Layouts.order(x, "0|"));
        a.dueSigns("after 0|", x, "");
        a.dueNoPlace("after 0|", x, 0);
    }
}
