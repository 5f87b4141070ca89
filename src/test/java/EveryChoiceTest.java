import java.util.ArrayList;
import java.util.List;
import java.util.Random;

/**
 * Long runs of calls on many objects, beside a model that tries every choice and does just what
 * the document's words say. The seeds are fixed, so that every run is the same.
 */
public final class EveryChoiceTest {
    private static final int RUNS = 60;
    private static final int CALLS = 512;

    public static void main(String[] args) {
        Answers answers = new Answers();
        for (int run = 0; run < RUNS; run++) {
            new Run(answers, run).go();
        }
        answers.end();
    }

    /** One object and its model, asked the same. */
    private static final class Run {
        private final Answers answers;
        private final int number;
        private final Random random;
        private final RoomLayouts object = new RoomLayouts();
        private final Model model = new Model();
        private final int mostSide;

        Run(Answers answers, int number) {
            this.answers = answers;
            this.number = number;
            this.random = new Random(number);
            this.mostSide = new int[] {3, 6, 12, 60}[number % 4];
        }

        void go() {
            int build = number % 3 == 0 ? 0 : 30;
            for (int k = 0; k < CALLS; k++) {
                one(k < build ? random.nextInt(2) : random.nextInt(36));
            }
        }

        private void one(int kind) {
            int room = oneOf(6);
            int other = oneOf(6);
            if (kind == 0) {
                same("room()", object::room, model::room);
            } else if (kind <= 3) {
                int width = 1 + oneOf(mostSide);
                int height = 1 + oneOf(mostSide);
                same("size " + room + " " + width + " " + height,
                        () -> object.size(room, width, height),
                        () -> model.size(room, width, height));
            } else if (kind == 4) {
                int width = random.nextInt(4) > 0 ? 400 : oneOf(mostSide * 5);
                int height = random.nextInt(4) > 0 ? 400 : oneOf(mostSide * 5);
                same("lot " + width + " " + height,
                        () -> { object.lot(width, height); return 0; },
                        () -> model.lot(width, height));
            } else if (kind <= 8) {
                String text = random.nextInt(4) == 0 ? anyText() : goodText();
                long[] words = words(text);
                same("order " + text, () -> object.order(words[0], words[1]),
                        () -> model.order(text));
            } else if (kind == 9) {
                int length = 1 + oneOf(random.nextBoolean() ? 2 : mostSide);
                same("wish " + room + " " + other + " " + length,
                        () -> object.wish(room, other, length),
                        () -> model.wish(room, other, length));
            } else if (kind <= 12) {
                same("swap " + room + " " + other, () -> object.swap(room, other) ? 1 : 0,
                        () -> model.swap(room, other));
            } else if (kind == 13) {
                same("improve", () -> object.improve() ? 1 : 0, model::improve);
            } else {
                look(kind - 14, room, other);
            }
        }

        private void look(int kind, int room, int other) {
            if (kind <= 3) {
                int what = oneOf(3);
                same("best " + what, () -> object.best(what), () -> model.best(what));
            } else if (kind <= 9) {
                int what = oneOf(5);
                same("place " + room + " " + what, () -> object.place(room, what),
                        () -> model.place(room, what));
            } else if (kind <= 13) {
                int k = oneOf(6);
                int what = oneOf(2);
                same("outline " + k + " " + what, () -> object.outline(k, what),
                        () -> model.outline(k, what));
            } else if (kind <= 17) {
                same("wall " + room + " " + other, () -> object.wall(room, other),
                        () -> model.wall(room, other));
            } else if (kind == 18) {
                int wish = oneOf(10);
                same("met " + wish, () -> object.met(wish) ? 1 : 0, () -> model.met(wish));
            } else if (kind == 19) {
                same("met()", object::met, model::met);
            } else {
                int k = oneOf(11);
                same("sign " + k, () -> object.sign(k), () -> model.sign(k));
            }
        }

        /** A number of 0 .. bound - 1; now and then one just outside. */
        private int oneOf(int bound) {
            int drawn = random.nextInt(60);
            return drawn == 0 ? -1 : drawn == 1 ? bound : random.nextInt(bound);
        }

        private void same(String call, Answers.Call asked, Answers.Call due) {
            String named = "run " + number + ": " + call;
            int thrown = Answers.thrownBy(due);
            if (thrown != Answers.NOTHING) {
                answers.due(named + " throws", thrown, Answers.thrownBy(asked));
                return;
            }
            // The model has been asked once; a call that changes is not asked again.
            answers.due(named, model.last, asked.answer());
        }

        private String anyText() {
            StringBuilder text = new StringBuilder();
            int length = random.nextInt(17);
            for (int k = 0; k < length; k++) {
                text.append("0123456||--a".charAt(random.nextInt(12)));
            }
            return text.toString();
        }

        private String goodText() {
            List<Integer> left = new ArrayList<>();
            for (int room = 0; room < model.sizes.size(); room++) {
                if (!model.sizes.get(room).isEmpty() && random.nextInt(6) > 0) {
                    left.add(room);
                }
            }
            StringBuilder text = new StringBuilder();
            int parts = 0;
            while (!left.isEmpty() || parts > 1) {
                if (parts < 2 || (!left.isEmpty() && random.nextBoolean())) {
                    if (left.isEmpty()) {
                        break;
                    }
                    text.append(left.remove(random.nextInt(left.size())));
                    parts++;
                } else {
                    text.append(random.nextBoolean() ? '|' : '-');
                    parts--;
                }
            }
            return text.toString();
        }

        /** The text in sixteen bytes, with the bytes 0 strewn in. */
        private long[] words(String text) {
            long[] words = new long[2];
            int next = 0;
            for (int at = 0; at < 16; at++) {
                int spare = 16 - at - (text.length() - next);
                boolean empty = next >= text.length() || (spare > 0 && random.nextInt(3) == 0);
                int sign = empty ? 0 : text.charAt(next++);
                words[at / 8] = words[at / 8] << 8 | sign;
            }
            return words;
        }
    }

    /** The document's words, without any shortcut. */
    private static final class Model {
        final List<List<int[]>> sizes = new ArrayList<>();
        private final List<int[]> wishes = new ArrayList<>();
        private String order = "";
        private int lotWidth = 400;
        private int lotHeight = 400;
        long last = 0;

        private long say(long answer) {
            last = answer;
            return answer;
        }

        private static void need(boolean holds) {
            if (!holds) {
                throw new IllegalArgumentException();
            }
        }

        private static void needState(boolean holds) {
            if (!holds) {
                throw new IllegalStateException();
            }
        }

        private boolean isRoom(int room) {
            return room >= 0 && room < sizes.size();
        }

        long room() {
            needState(sizes.size() < 6);
            sizes.add(new ArrayList<>());
            return say(sizes.size() - 1);
        }

        long size(int room, int width, int height) {
            need(isRoom(room) && width >= 1 && width <= 60 && height >= 1 && height <= 60);
            needState(sizes.get(room).size() < 4);
            sizes.get(room).add(new int[] {width, height});
            return say(sizes.get(room).size() - 1);
        }

        long lot(int width, int height) {
            need(width >= 1 && width <= 400 && height >= 1 && height <= 400);
            lotWidth = width;
            lotHeight = height;
            return say(0);
        }

        long order(String text) {
            int parts = 0;
            for (int k = 0; k < text.length(); k++) {
                char sign = text.charAt(k);
                int room = sign - '0';
                if (sign == '|' || sign == '-') {
                    if (parts < 2) {
                        return say(k);
                    }
                    parts--;
                } else {
                    if (!isRoom(room) || sizes.get(room).isEmpty() || text.indexOf(sign) < k) {
                        return say(k);
                    }
                    parts++;
                }
            }
            if (parts != 1) {
                return say(text.length());
            }
            order = text;
            return say(-1);
        }

        /** All rooms' rectangles {size, x, y, width, height}, or null; [6] is the outline. */
        private int[][] layOut(int[] choice) {
            int[][] rectangles = new int[7][];
            List<int[]> outlines = new ArrayList<>();
            List<List<Integer>> members = new ArrayList<>();
            for (char sign : order.toCharArray()) {
                if (sign != '|' && sign != '-') {
                    int room = sign - '0';
                    int[] size = sizes.get(room).get(choice[room]);
                    rectangles[room] = new int[] {choice[room], 0, 0, size[0], size[1]};
                    outlines.add(size.clone());
                    members.add(new ArrayList<>(List.of(room)));
                    continue;
                }
                int[] second = outlines.remove(outlines.size() - 1);
                int[] first = outlines.remove(outlines.size() - 1);
                List<Integer> moved = members.remove(members.size() - 1);
                for (int room : moved) {
                    rectangles[room][1] += sign == '|' ? first[0] : 0;
                    rectangles[room][2] += sign == '|' ? 0 : first[1];
                }
                members.get(members.size() - 1).addAll(moved);
                outlines.add(sign == '|'
                        ? new int[] {first[0] + second[0], Math.max(first[1], second[1])}
                        : new int[] {Math.max(first[0], second[0]), first[1] + second[1]});
            }
            rectangles[6] = outlines.get(0);
            return rectangles;
        }

        /** Every layout that fits, by the choice's size numbers, room 0's first. */
        private List<int[][]> fitting() {
            List<int[][]> all = new ArrayList<>();
            if (!order.isEmpty()) {
                choose(0, new int[6], all);
            }
            return all;
        }

        private void choose(int room, int[] choice, List<int[][]> all) {
            if (room == 6) {
                int[][] made = layOut(choice);
                if (made[6][0] <= lotWidth && made[6][1] <= lotHeight) {
                    all.add(made);
                }
                return;
            }
            int choices = order.indexOf('0' + room) < 0 ? 1 : sizes.get(room).size();
            for (int size = 0; size < choices; size++) {
                choice[room] = size;
                choose(room + 1, choice, all);
            }
        }

        private int[][] bestLayout() {
            int[][] best = null;
            for (int[][] made : fitting()) {
                int area = made[6][0] * made[6][1];
                if (best == null || area < best[6][0] * best[6][1]
                        || (area == best[6][0] * best[6][1] && made[6][0] < best[6][0])) {
                    best = made;
                }
            }
            return best;
        }

        long best(int what) {
            need(what >= 0 && what <= 2);
            int[][] best = bestLayout();
            if (best == null) {
                return say(-1);
            }
            return say(what == 0 ? best[6][0] * best[6][1] : best[6][what - 1]);
        }

        long place(int room, int what) {
            need(isRoom(room) && what >= 0 && what <= 4);
            int[][] best = bestLayout();
            return say(best == null || best[room] == null ? -1 : best[room][what]);
        }

        long outline(int k, int what) {
            need(k >= 0 && what >= 0 && what <= 1);
            List<int[][]> all = fitting();
            int found = 0;
            for (int width = 1; width <= 400; width++) {
                int height = lowest(all, width, width);
                if (height < 1000 && lowest(all, 1, width - 1) > height) {
                    if (found == k) {
                        return say(what == 0 ? width : height);
                    }
                    found++;
                }
            }
            return say(-1);
        }

        private static int lowest(List<int[][]> all, int leastWidth, int mostWidth) {
            int lowest = 1000;
            for (int[][] made : all) {
                if (made[6][0] >= leastWidth && made[6][0] <= mostWidth) {
                    lowest = Math.min(lowest, made[6][1]);
                }
            }
            return lowest;
        }

        long wall(int room, int other) {
            need(isRoom(room) && isRoom(other) && room != other);
            return say(wallIn(bestLayout(), room, other));
        }

        /** Counted piece by piece: places of length 1 with one room on each side. */
        private static int wallIn(int[][] best, int room, int other) {
            if (best == null || best[room] == null || best[other] == null) {
                return -1;
            }
            int[] a = best[room];
            int length = 0;
            for (int y = a[2]; y < a[2] + a[4]; y++) {
                length += covers(best[other], a[1] - 1, y) ? 1 : 0;
                length += covers(best[other], a[1] + a[3], y) ? 1 : 0;
            }
            for (int x = a[1]; x < a[1] + a[3]; x++) {
                length += covers(best[other], x, a[2] - 1) ? 1 : 0;
                length += covers(best[other], x, a[2] + a[4]) ? 1 : 0;
            }
            return length;
        }

        private static boolean covers(int[] a, int x, int y) {
            return x >= a[1] && x < a[1] + a[3] && y >= a[2] && y < a[2] + a[4];
        }

        long wish(int room, int other, int length) {
            need(isRoom(room) && isRoom(other) && room != other && length >= 1 && length <= 60);
            needState(wishes.size() < 10);
            wishes.add(new int[] {room, other, length});
            return say(wishes.size() - 1);
        }

        long met(int wish) {
            need(wish >= 0 && wish < wishes.size());
            return say(isMet(bestLayout(), wishes.get(wish)) ? 1 : 0);
        }

        private static boolean isMet(int[][] best, int[] wish) {
            return wallIn(best, wish[0], wish[1]) >= wish[2];
        }

        long met() {
            return say(metIn(bestLayout()));
        }

        private int metIn(int[][] best) {
            int met = 0;
            for (int[] wish : wishes) {
                met += isMet(best, wish) ? 1 : 0;
            }
            return met;
        }

        long swap(int room, int other) {
            need(isRoom(room) && isRoom(other) && room != other);
            boolean neither = order.indexOf('0' + room) < 0 && order.indexOf('0' + other) < 0;
            if (neither || sizes.get(room).isEmpty() || sizes.get(other).isEmpty()) {
                return say(0);
            }
            order = order.replace((char) ('0' + room), '?')
                    .replace((char) ('0' + other), (char) ('0' + room))
                    .replace('?', (char) ('0' + other));
            return say(1);
        }

        long improve() {
            String before = order;
            String bestOrder = order;
            int[][] best = bestLayout();
            for (int room = 0; room < sizes.size(); room++) {
                for (int other = room + 1; other < sizes.size(); other++) {
                    order = before;
                    if (swap(room, other) == 1) {
                        int[][] now = bestLayout();
                        if (isBetter(now, best)) {
                            best = now;
                            bestOrder = order;
                        }
                    }
                }
            }
            order = bestOrder;
            return say(bestOrder.equals(before) ? 0 : 1);
        }

        private boolean isBetter(int[][] now, int[][] than) {
            if (now == null) {
                return false;
            }
            if (than == null) {
                return true;
            }
            int nowMet = metIn(now);
            int thanMet = metIn(than);
            return nowMet > thanMet || (nowMet == thanMet
                    && now[6][0] * now[6][1] < than[6][0] * than[6][1]);
        }

        long sign(int k) {
            need(k >= 0);
            return say(k < order.length() ? order.charAt(k) : -1);
        }
    }
}
