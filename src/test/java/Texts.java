/** Texts as the numbers that the tape is fed with. */
final class Texts {
    private Texts() {
    }

    /** Twenty bytes from a place on, zeros behind the end. */
    static int[] fours(String text, int from) {
        int[] fours = new int[5];
        for (int i = 0; i < 20; i++) {
            int sign = from + i < text.length() ? text.charAt(from + i) & 255 : 0;
            fours[i / 4] = fours[i / 4] << 8 | sign;
        }
        return fours;
    }

    static void feed(OneDecision x, String text) {
        for (int i = 0; i < text.length(); i += 20) {
            int[] fours = fours(text, i);
            x.feed(fours[0], fours[1], fours[2], fours[3], fours[4]);
        }
        x.end(text.length());
    }

    static int realm(OneDecision x, String text) {
        feed(x, text);
        return x.realm();
    }

    static int rule(OneDecision x, String text) {
        feed(x, text);
        return x.rule();
    }
}
