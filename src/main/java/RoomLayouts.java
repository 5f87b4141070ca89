/**
 * Rooms laid out by slices. The document (DOC.md) says what each call answers.
 *
 * The outlines that a part can have are held as a curve: only those within which no other one
 * lies. A curve of n outlines and one of m join to at most n + m - 1, so the whole's curve stays
 * short where the choices themselves are 4 to the 6th.
 */
public final class RoomLayouts {
    public static final int NONE = -1;

    private static final int MOST_ROOMS = 6;
    private static final int MOST_SIZES = 4;
    private static final int MOST_SIDE = 60;
    private static final int MOST_LOT = 400;
    private static final int MOST_WISHES = 10;
    private static final int MOST_WISHED = 60;
    private static final int WORD_BYTES = 8;
    private static final int MOST_BYTES = 16;
    /** Every room once, and one sign less that joins them. */
    private static final int MOST_SIGNS = 11;
    /** A room's curve has 4 outlines at most, and joining never makes more than both have. */
    private static final int MOST_OUTLINES = 24;
    private static final int BESIDE = '|';
    private static final int ABOVE = '-';
    /** Stands for the area of no best choice: above that of every outline within the lot. */
    private static final int NO_AREA = MOST_LOT * MOST_LOT + 1;

    private final SignRow reading = new SignRow();
    private final Plan plan = new Plan();
    private final WishList wishList = new WishList();

    public RoomLayouts() {
    }

    public int room() throws IllegalStateException {
        if (plan.rooms.count >= MOST_ROOMS) {
            throw new IllegalStateException("there are 6 rooms");
        }
        return plan.rooms.addRoom();
    }

    public int size(int room, int width, int height)
            throws IllegalArgumentException, IllegalStateException {
        needRoom(room);
        needWithin(width, 1, MOST_SIDE);
        needWithin(height, 1, MOST_SIDE);
        if (plan.rooms.sizesOf(room) >= MOST_SIZES) {
            throw new IllegalStateException("the room has 4 sizes");
        }
        plan.forget();
        return plan.rooms.addSize(room, width, height);
    }

    public void lot(int width, int height) throws IllegalArgumentException {
        needWithin(width, 1, MOST_LOT);
        needWithin(height, 1, MOST_LOT);
        plan.setLot(width, height);
    }

    public int order(long first, long second) {
        reading.clear();
        reading.addBytes(first);
        reading.addBytes(second);
        int fault = reading.firstFault(plan.rooms);
        if (fault == NONE) {
            plan.tree.build(reading);
            plan.forget();
        }
        return fault;
    }

    public int best(int what) throws IllegalArgumentException {
        needWithin(what, 0, 2);
        plan.measure();
        if (!plan.hasBest()) {
            return NONE;
        }
        if (what == 0) {
            return plan.bestArea();
        }
        return what == 1 ? plan.bestWidth() : plan.bestHeight();
    }

    public int place(int room, int what) throws IllegalArgumentException {
        needRoom(room);
        needWithin(what, 0, 4);
        plan.settle();
        return plan.readPlace(room, what);
    }

    public int outline(int k, int what) throws IllegalArgumentException {
        needNotBelowZero(k);
        needWithin(what, 0, 1);
        plan.measure();
        return what == 0 ? plan.fitting.widthAt(k) : plan.fitting.heightAt(k);
    }

    public int wall(int room, int other) throws IllegalArgumentException {
        needTwoRooms(room, other);
        plan.settle();
        return plan.sharedWall(room, other);
    }

    public int wish(int room, int other, int length)
            throws IllegalArgumentException, IllegalStateException {
        needTwoRooms(room, other);
        needWithin(length, 1, MOST_WISHED);
        if (wishList.count >= MOST_WISHES) {
            throw new IllegalStateException("there are 10 wishes");
        }
        return wishList.add(room, other, length);
    }

    public boolean met(int wish) throws IllegalArgumentException {
        needWithin(wish, 0, wishList.count - 1);
        plan.settle();
        return wishList.isMetIn(plan, wish);
    }

    public int met() {
        plan.settle();
        return wishList.countMetIn(plan);
    }

    public boolean swap(int room, int other) throws IllegalArgumentException {
        needTwoRooms(room, other);
        if (!canExchange(room, other)) {
            return false;
        }
        changePlaces(room, other);
        return true;
    }

    public boolean improve() {
        boolean wished = wishList.count > 0;
        plan.measure();
        if (wished) {
            plan.settle();
        }
        int mostMet = wishList.countMetIn(plan);
        int leastArea = plan.bestArea();
        int bestRoom = NONE;
        int bestOther = NONE;
        for (int room = 0; room < plan.rooms.count; room++) {
            for (int other = room + 1; other < plan.rooms.count; other++) {
                if (!canExchange(room, other)) {
                    continue;
                }
                changePlaces(room, other);
                plan.measure();
                if (wished) {
                    plan.settle();
                }
                int nowMet = wishList.countMetIn(plan);
                int nowArea = plan.bestArea();
                // Changing places once more brings the order back as it was.
                changePlaces(room, other);
                if (nowMet > mostMet || (nowMet == mostMet && nowArea < leastArea)) {
                    mostMet = nowMet;
                    leastArea = nowArea;
                    bestRoom = room;
                    bestOther = other;
                }
            }
        }
        if (bestRoom == NONE) {
            return false;
        }
        changePlaces(bestRoom, bestOther);
        return true;
    }

    public int sign(int k) throws IllegalArgumentException {
        needNotBelowZero(k);
        return plan.tree.signAt(k);
    }

    private boolean canExchange(int room, int other) {
        return plan.rooms.sizesOf(room) > 0 && plan.rooms.sizesOf(other) > 0
                && (plan.tree.nodeOf(room) != NONE || plan.tree.nodeOf(other) != NONE);
    }

    private void changePlaces(int room, int other) {
        plan.tree.exchange(room, other);
        plan.forget();
    }

    private void needRoom(int room) {
        needWithin(room, 0, plan.rooms.count - 1);
    }

    private void needTwoRooms(int room, int other) {
        needRoom(room);
        needRoom(other);
        if (room == other) {
            throw new IllegalArgumentException("both rooms are one");
        }
    }

    private static void needWithin(int number, int least, int most) {
        if (number < least || number > most) {
            throw new IllegalArgumentException("a number is out of its bounds");
        }
    }

    private static void needNotBelowZero(int k) {
        if (k < 0) {
            throw new IllegalArgumentException("k is below 0");
        }
    }

    /** The room whose digit a sign is (it may not exist), or NONE. */
    private static int roomOfSign(int sign) {
        return sign >= '0' && sign <= '9' ? sign - '0' : NONE;
    }

    private static boolean joins(int sign) {
        return sign == BESIDE || sign == ABOVE;
    }

    /** The rooms with their sizes. */
    private static final class RoomList {
        int count = 0;
        private final int[] sizeCount = new int[MOST_ROOMS];
        private final int[] width = new int[MOST_ROOMS * MOST_SIZES];
        private final int[] height = new int[MOST_ROOMS * MOST_SIZES];

        int addRoom() {
            return count < MOST_ROOMS ? count++ : NONE;
        }

        int addSize(int room, int sizeWidth, int sizeHeight) {
            int number = sizesOf(room);
            int at = slot(room, number);
            if (at == NONE) {
                return NONE;
            }
            width[at] = sizeWidth;
            height[at] = sizeHeight;
            sizeCount[room] = number + 1;
            return number;
        }

        int sizesOf(int room) {
            return room >= 0 && room < MOST_ROOMS ? sizeCount[room] : 0;
        }

        int widthOf(int room, int number) {
            int at = slot(room, number);
            return at == NONE ? 0 : width[at];
        }

        int heightOf(int room, int number) {
            int at = slot(room, number);
            return at == NONE ? 0 : height[at];
        }

        private static int slot(int room, int number) {
            boolean exists = room >= 0 && room < MOST_ROOMS && number >= 0 && number < MOST_SIZES;
            return exists ? room * MOST_SIZES + number : NONE;
        }
    }

    /** The signs of a text that may be an order. */
    private static final class SignRow {
        int count = 0;
        private final int[] signs = new int[MOST_BYTES];

        void clear() {
            count = 0;
        }

        void addBytes(long word) {
            for (int k = WORD_BYTES - 1; k >= 0; k--) {
                int sign = (int) (word >>> (8 * k)) & 255;
                if (sign != 0 && count < MOST_BYTES) {
                    signs[count] = sign;
                    count++;
                }
            }
        }

        int signAt(int k) {
            return k >= 0 && k < count && k < MOST_BYTES ? signs[k] : NONE;
        }

        /** The first sign that cannot stand, or how many there are, or NONE: it is an order. */
        int firstFault(RoomList rooms) {
            int seen = 0;
            int parts = 0;
            for (int k = 0; k < count; k++) {
                int sign = signAt(k);
                int room = roomOfSign(sign);
                if (room != NONE) {
                    if (rooms.sizesOf(room) == 0 || (seen & (1 << room)) != 0) {
                        return k;
                    }
                    seen |= 1 << room;
                    parts++;
                } else {
                    if (!joins(sign) || parts < 2) {
                        return k;
                    }
                    parts--;
                }
            }
            return parts == 1 ? NONE : count;
        }
    }

    /** An order: node k is the part that sign k ends; the last node is the whole. */
    private static final class SliceTree {
        int count = 0;
        private final int[] signs = new int[MOST_SIGNS];
        private final int[] first = new int[MOST_SIGNS];
        private final int[] second = new int[MOST_SIGNS];
        private final int[] parent = new int[MOST_SIGNS];
        private final int[] open = new int[MOST_SIGNS];
        private final int[] roomNode = new int[MOST_ROOMS];

        SliceTree() {
            forgetRooms();
        }

        /** Takes over a row of signs without a fault. */
        void build(SignRow row) {
            count = Math.min(row.count, MOST_SIGNS);
            forgetRooms();
            int parts = 0;
            for (int k = 0; k < count; k++) {
                setSign(k, row.signAt(k));
                parent[k] = NONE;
                if (joins(signs[k]) && parts >= 2) {
                    link(k, open[parts - 2], open[parts - 1]);
                    parts -= 2;
                }
                open[parts] = k;
                parts++;
            }
        }

        private void forgetRooms() {
            for (int room = 0; room < MOST_ROOMS; room++) {
                roomNode[room] = NONE;
            }
        }

        private void setSign(int node, int sign) {
            signs[node] = sign;
            int room = roomOfSign(sign);
            if (room >= 0 && room < MOST_ROOMS) {
                roomNode[room] = node;
            }
        }

        private void link(int node, int firstPart, int secondPart) {
            first[node] = firstPart;
            second[node] = secondPart;
            parent[firstPart] = node;
            parent[secondPart] = node;
        }

        boolean has(int node) {
            return node >= 0 && node < count && node < MOST_SIGNS;
        }

        int signAt(int node) {
            return has(node) ? signs[node] : NONE;
        }

        int roomAt(int node) {
            return roomOfSign(signAt(node));
        }

        int firstOf(int node) {
            return has(node) ? first[node] : NONE;
        }

        int secondOf(int node) {
            return has(node) ? second[node] : NONE;
        }

        int parentOf(int node) {
            return has(node) ? parent[node] : NONE;
        }

        int nodeOf(int room) {
            return room >= 0 && room < MOST_ROOMS ? roomNode[room] : NONE;
        }

        void exchange(int room, int other) {
            int nodeOfRoom = nodeOf(room);
            int nodeOfOther = nodeOf(other);
            giveNode(room, nodeOfOther);
            giveNode(other, nodeOfRoom);
        }

        private void giveNode(int room, int node) {
            if (room < 0 || room >= MOST_ROOMS) {
                return;
            }
            roomNode[room] = node;
            if (has(node)) {
                signs[node] = '0' + room;
            }
        }
    }

    /** Outlines of a part, none within another one, by their widths: the heights fall. */
    private static final class Curve {
        int count = 0;
        private final int[] width = new int[MOST_OUTLINES];
        private final int[] height = new int[MOST_OUTLINES];

        int widthAt(int k) {
            return k >= 0 && k < count ? width[k] : NONE;
        }

        int heightAt(int k) {
            return k >= 0 && k < count ? height[k] : NONE;
        }

        void clear() {
            count = 0;
        }

        void append(int newWidth, int newHeight) {
            if (count < MOST_OUTLINES) {
                width[count] = newWidth;
                height[count] = newHeight;
                count++;
            }
        }

        /** Puts an outline in, unless one lies within it; those go that it lies within. */
        void offer(int newWidth, int newHeight) {
            if (hasWithin(newWidth, newHeight)) {
                return;
            }
            dropAround(newWidth, newHeight);
            append(newWidth, newHeight);
            for (int k = count - 1; k > 0 && width[k - 1] > width[k]; k--) {
                exchangeOutlines(k - 1, k);
            }
        }

        boolean hasWithin(int mostWidth, int mostHeight) {
            for (int k = 0; k < count; k++) {
                if (width[k] <= mostWidth && height[k] <= mostHeight) {
                    return true;
                }
            }
            return false;
        }

        private void dropAround(int leastWidth, int leastHeight) {
            int before = count;
            count = 0;
            for (int k = 0; k < before; k++) {
                if (width[k] < leastWidth || height[k] < leastHeight) {
                    append(width[k], height[k]);
                }
            }
        }

        private void exchangeOutlines(int k, int other) {
            int oldWidth = width[k];
            int oldHeight = height[k];
            width[k] = width[other];
            height[k] = height[other];
            width[other] = oldWidth;
            height[other] = oldHeight;
        }

        void joinBeside(Curve a, Curve b) {
            clear();
            int i = 0;
            int j = 0;
            while (i < a.count && j < b.count) {
                int heightA = a.height[i];
                int heightB = b.height[j];
                append(a.width[i] + b.width[j], Math.max(heightA, heightB));
                // A wider outline of the lower part would not make the whole lower.
                if (heightA >= heightB) {
                    i++;
                }
                if (heightB >= heightA) {
                    j++;
                }
            }
        }

        void joinAbove(Curve a, Curve b) {
            clear();
            int i = a.count - 1;
            int j = b.count - 1;
            while (i >= 0 && j >= 0) {
                int widthA = a.width[i];
                int widthB = b.width[j];
                append(Math.max(widthA, widthB), a.height[i] + b.height[j]);
                // A higher outline of the narrower part would not make the whole narrower.
                if (widthA >= widthB) {
                    i--;
                }
                if (widthB >= widthA) {
                    j--;
                }
            }
            // They came from the widest on; a curve begins with the narrowest.
            for (int k = 0; k < count / 2; k++) {
                exchangeOutlines(k, count - 1 - k);
            }
        }

        /** The outlines of another curve that lie within a lot. */
        void takeFitting(Curve from, int mostWidth, int mostHeight) {
            clear();
            for (int k = 0; k < from.count; k++) {
                if (from.width[k] <= mostWidth && from.height[k] <= mostHeight) {
                    append(from.width[k], from.height[k]);
                }
            }
        }

        /** The outline of the least area, of several the narrowest; NONE without outlines. */
        int leastArea() {
            int least = NONE;
            int area = NO_AREA;
            for (int k = 0; k < count; k++) {
                if (width[k] * height[k] < area) {
                    area = width[k] * height[k];
                    least = k;
                }
            }
            return least;
        }
    }

    /**
     * The best choice of the order, worked out only when asked for: measure() finds the outlines,
     * settle() also the rooms' sizes and corners, which needs much more work. The others only read
     * what these two have found.
     */
    private static final class Plan {
        final RoomList rooms = new RoomList();
        final SliceTree tree = new SliceTree();
        private int lotWidth = MOST_LOT;
        private int lotHeight = MOST_LOT;
        private boolean measured = false;
        private boolean settled = false;
        private final Curve[] curves = new Curve[MOST_SIGNS];
        final Curve fitting = new Curve();
        private int bestAt = NONE;
        private final int[] choice = new int[MOST_SIGNS];
        private final int[] left = new int[MOST_SIGNS];
        private final int[] bottom = new int[MOST_SIGNS];

        Plan() {
            for (int k = 0; k < MOST_SIGNS; k++) {
                curves[k] = new Curve();
            }
        }

        void forget() {
            measured = false;
            settled = false;
        }

        void setLot(int width, int height) {
            lotWidth = width;
            lotHeight = height;
            forget();
        }

        boolean hasBest() {
            return bestAt != NONE;
        }

        int bestWidth() {
            return fitting.widthAt(bestAt);
        }

        int bestHeight() {
            return fitting.heightAt(bestAt);
        }

        /** Without a best choice NO_AREA, since that is worse than any. */
        int bestArea() {
            return hasBest() ? bestWidth() * bestHeight() : NO_AREA;
        }

        /** The node of a room that has a place in the best choice, or NONE. */
        private int nodeOfPlaced(int room) {
            return hasBest() ? tree.nodeOf(room) : NONE;
        }

        int readPlace(int room, int what) {
            int node = nodeOfPlaced(room);
            if (!tree.has(node)) {
                return NONE;
            }
            switch (what) {
                case 0:
                    return choice[node];
                case 1:
                    return left[node];
                case 2:
                    return bottom[node];
                case 3:
                    return nodeWidth(node);
                default:
                    return nodeHeight(node);
            }
        }

        /** Once all rooms have their sizes, each curve holds just one outline. */
        private int nodeWidth(int node) {
            return tree.has(node) ? curves[node].widthAt(0) : NONE;
        }

        private int nodeHeight(int node) {
            return tree.has(node) ? curves[node].heightAt(0) : NONE;
        }

        int sharedWall(int room, int other) {
            int a = nodeOfPlaced(room);
            int b = nodeOfPlaced(other);
            if (!tree.has(a) || !tree.has(b)) {
                return NONE;
            }
            int rightA = left[a] + nodeWidth(a);
            int rightB = left[b] + nodeWidth(b);
            int topA = bottom[a] + nodeHeight(a);
            int topB = bottom[b] + nodeHeight(b);
            int shared = 0;
            if (rightA == left[b] || rightB == left[a]) {
                shared = Math.min(topA, topB) - Math.max(bottom[a], bottom[b]);
            } else if (topA == bottom[b] || topB == bottom[a]) {
                shared = Math.min(rightA, rightB) - Math.max(left[a], left[b]);
            }
            return Math.max(shared, 0);
        }

        void measure() {
            if (measured) {
                return;
            }
            for (int k = 0; k < tree.count; k++) {
                int room = tree.roomAt(k);
                if (room == NONE) {
                    join(k);
                } else {
                    takeSizes(k, room);
                }
            }
            int last = tree.count - 1;
            fitting.clear();
            if (tree.has(last)) {
                fitting.takeFitting(curves[last], lotWidth, lotHeight);
            }
            bestAt = fitting.leastArea();
            measured = true;
        }

        private void takeSizes(int node, int room) {
            if (!tree.has(node)) {
                return;
            }
            curves[node].clear();
            for (int number = 0; number < rooms.sizesOf(room); number++) {
                curves[node].offer(rooms.widthOf(room, number), rooms.heightOf(room, number));
            }
        }

        private void join(int node) {
            int first = tree.firstOf(node);
            int second = tree.secondOf(node);
            if (!tree.has(node) || !tree.has(first) || !tree.has(second)) {
                return;
            }
            if (tree.signAt(node) == BESIDE) {
                curves[node].joinBeside(curves[first], curves[second]);
            } else {
                curves[node].joinAbove(curves[first], curves[second]);
            }
        }

        void settle() {
            measure();
            if (settled || !hasBest()) {
                return;
            }
            for (int room = 0; room < rooms.count; room++) {
                chooseFirstSize(tree.nodeOf(room), room);
            }
            setCorners();
            settled = true;
        }

        /**
         * Of the sizes the first with which the rooms still to come can reach the best outline. A
         * choice within it has just this outline, since a lesser one would have less area.
         */
        private void chooseFirstSize(int node, int room) {
            int last = tree.count - 1;
            if (!tree.has(node) || !tree.has(last)) {
                return;
            }
            Curve whole = curves[last];
            int width = bestWidth();
            int height = bestHeight();
            for (int number = 0; number < rooms.sizesOf(room); number++) {
                choice[node] = number;
                pin(node, rooms.widthOf(room, number), rooms.heightOf(room, number));
                if (whole.hasWithin(width, height)) {
                    return;
                }
            }
        }

        private void pin(int node, int width, int height) {
            curves[node].clear();
            curves[node].append(width, height);
            int above = tree.parentOf(node);
            for (int depth = 0; depth < MOST_SIGNS && above != NONE; depth++) {
                join(above);
                above = tree.parentOf(above);
            }
        }

        private void setCorners() {
            int last = tree.count - 1;
            if (!tree.has(last)) {
                return;
            }
            left[last] = 0;
            bottom[last] = 0;
            // A part's sign stands after those of its own parts: backwards each corner is known.
            for (int k = last; k >= 0; k--) {
                if (tree.roomAt(k) == NONE) {
                    setCornersOfParts(k, tree.firstOf(k), tree.secondOf(k));
                }
            }
        }

        private void setCornersOfParts(int node, int first, int second) {
            if (!tree.has(node) || !tree.has(first) || !tree.has(second)) {
                return;
            }
            boolean beside = tree.signAt(node) == BESIDE;
            left[first] = left[node];
            bottom[first] = bottom[node];
            left[second] = left[node] + (beside ? nodeWidth(first) : 0);
            bottom[second] = bottom[node] + (beside ? 0 : nodeHeight(first));
        }
    }

    /** The wishes: two rooms each, and how long a wall they shall share. */
    private static final class WishList {
        int count = 0;
        private final int[] one = new int[MOST_WISHES];
        private final int[] another = new int[MOST_WISHES];
        private final int[] length = new int[MOST_WISHES];

        int add(int room, int other, int wallLength) {
            if (count >= MOST_WISHES) {
                return NONE;
            }
            one[count] = room;
            another[count] = other;
            length[count] = wallLength;
            return count++;
        }

        boolean isMetIn(Plan plan, int number) {
            return number >= 0 && number < count
                    && plan.sharedWall(one[number], another[number]) >= length[number];
        }

        int countMetIn(Plan plan) {
            int metCount = 0;
            for (int number = 0; number < count; number++) {
                if (isMetIn(plan, number)) {
                    metCount++;
                }
            }
            return metCount;
        }
    }
}
