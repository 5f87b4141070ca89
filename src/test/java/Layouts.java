/** Makes objects and orders out of short texts. */
final class Layouts {
    private Layouts() {
    }

    /** An object with rooms; each text is a room's sizes, as in "4x3 3x4", or "" for none. */
    static RoomLayouts with(String... rooms) {
        RoomLayouts made = new RoomLayouts();
        for (String sizes : rooms) {
            int room = made.room();
            for (String size : sizes.isEmpty() ? new String[0] : sizes.split(" ")) {
                int cross = size.indexOf('x');
                made.size(room, Integer.parseInt(size.substring(0, cross)),
                        Integer.parseInt(size.substring(cross + 1)));
            }
        }
        return made;
    }

    /** Six rooms of one and the same size. */
    static RoomLayouts withSix(String size) {
        return with(size, size, size, size, size, size);
    }

    /** An object with rooms and an order, which has to be one. */
    static RoomLayouts ordered(String order, String... rooms) {
        RoomLayouts made = with(rooms);
        if (order(made, order) != -1) {
            throw new IllegalStateException("no order: " + order);
        }
        return made;
    }

    static int order(RoomLayouts x, String text) {
        return x.order(word(text, 0), word(text, 8));
    }

    /** Up to eight characters as the bytes of a word. */
    static long word(String text, int from) {
        long word = 0;
        for (int k = from; k < text.length() && k < from + 8; k++) {
            word = word << 8 | text.charAt(k);
        }
        return word;
    }

    static long lot(RoomLayouts x, int width, int height) {
        x.lot(width, height);
        return 0;
    }

    /** A boolean's call as a number, for the calls that have to throw. */
    static long number(boolean answer) {
        return answer ? 1 : 0;
    }

    /** All that can be read without changing anything, some 140 calls. */
    static String allOf(RoomLayouts x, int rooms, int wishes) {
        StringBuilder all = new StringBuilder("signs");
        for (int k = 0; k < 12; k++) {
            all.append(' ').append(x.sign(k));
        }
        all.append(" best ").append(x.best(0)).append(' ').append(x.best(1));
        all.append(' ').append(x.best(2));
        for (int k = 0; k < 20; k++) {
            all.append(" outline ").append(x.outline(k, 0)).append(' ').append(x.outline(k, 1));
        }
        for (int room = 0; room < rooms; room++) {
            all.append(" place");
            for (int what = 0; what <= 4; what++) {
                all.append(' ').append(x.place(room, what));
            }
            for (int other = 0; other < rooms; other++) {
                all.append(' ').append(room == other ? 0 : x.wall(room, other));
            }
        }
        all.append(" met ").append(x.met());
        for (int wish = 0; wish < wishes; wish++) {
            all.append(' ').append(x.met(wish));
        }
        return all.toString();
    }
}
