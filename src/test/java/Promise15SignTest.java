/** Promise 15: sign. */
public final class Promise15SignTest {
    public static void main(String[] args) {
        Answers.runTests(Promise15SignTest.class);
    }

    static void itsCharacter(Answers a) {
        RoomLayouts x = Layouts.ordered("01|2-", "1x1", "1x1", "1x1");
        int[] due = {48, 49, 124, 50, 45};
        for (int k = 0; k < due.length; k++) {
            a.due("sign(" + k + ")", due[k], x.sign(k));
        }
    }

    static void theElevenSignsOfTheLongestOrder(Answers a) {
        RoomLayouts x = Layouts.withSix("1x1");
        Layouts.order(x, "01|23-|45-|");
        a.dueSigns("eleven", x, "01|23-|45-|");
    }

    static void noneBehindTheLast(Answers a) {
        RoomLayouts x = Layouts.ordered("01|", "1x1", "1x1");
        int[] behind = {3, 4, 10, 11, 12, 15, 16, 255, 256, 65536, Answers.MAX - 1, Answers.MAX};
        for (int k : behind) {
            a.due("sign(" + k + ")", -1, x.sign(k));
        }
        RoomLayouts longest = Layouts.withSix("1x1");
        Layouts.order(longest, "01|23-|45-|");
        a.due("sign(11)", -1, longest.sign(11));
        a.due("sign(16)", -1, longest.sign(16));
    }

    static void noneWithoutAnOrder(Answers a) {
        int[] any = {0, 1, 10, 11, Answers.MAX};
        for (int k : any) {
            a.due("sign(" + k + ") of a new object", -1, new RoomLayouts().sign(k));
            a.due("sign(" + k + ") with rooms", -1, Layouts.with("1x1").sign(k));
        }
    }

    static void kBelow0IsIllegalArgument(Answers a) {
        RoomLayouts x = Layouts.ordered("01|", "1x1", "1x1");
        int[] below = {-1, -2, -255, -256, -65536, Answers.MIN, Answers.MIN + 1};
        for (int k : below) {
            a.illegalArgument("sign(" + k + ")", () -> x.sign(k));
            a.illegalArgument("sign(" + k + ") of a new object", () -> new RoomLayouts().sign(k));
        }
        a.dueSigns("after", x, "01|");
    }

    static void aShorterOrderLeavesNoSignsOfTheLongerOne(Answers a) {
        RoomLayouts x = Layouts.withSix("1x1");
        Layouts.order(x, "01|23-|45-|");
        Layouts.order(x, "5");
        a.dueSigns("one sign", x, "5");
        for (int k = 1; k <= 11; k++) {
            a.due("sign(" + k + ")", -1, x.sign(k));
        }
    }

    static void textsThatAreNoOrderLeaveTheSigns(Answers a) {
        RoomLayouts x = Layouts.ordered("01|", "1x1", "1x1", "1x1");
        String[] texts = {"", "3", "00|", "12", "210|", "||||", "01|2"};
        for (String text : texts) {
            Layouts.order(x, text);
            a.dueSigns("after " + text, x, "01|");
        }
    }

    static void swapAndImproveChangeTheDigits(Answers a) {
        RoomLayouts x = Layouts.ordered("01|", "4x4", "3x3", "2x2");
        x.swap(0, 1);
        a.dueSigns("after swap", x, "10|");
        x.improve();
        a.dueSigns("after improve", x, "12|");
    }

    static void bytesThatAre0AreNoSigns(Answers a) {
        RoomLayouts x = Layouts.with("1x1", "1x1");
        x.order(0x0030000000310000L, 0x0000002d00000000L);
        a.dueSigns("three of sixteen bytes", x, "01-");
    }
}
