/** Feeds texts. */
final class Tapes {
    private Tapes() { }

    static int feed(PassHuts x, String text) {
        int size = x.count(9);
        for (int i = 0; i < text.length(); i += 24) {
            size = x.feed(eight(text, i), eight(text, i + 8), eight(text, i + 16));
        }
        return size;
    }

    static long eight(String text, int from) {
        long all = 0;
        for (int i = from; i < from + 8; i++) {
            all = all << 8 | (i < text.length() ? text.charAt(i) & 255 : 0);
        }
        return all;
    }

    static int hills(PassHuts x, String text) {
        feed(x, text);
        return x.hills();
    }

    static int trip(PassHuts x, String text) {
        feed(x, text);
        return x.trip();
    }
}
