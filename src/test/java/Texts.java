/** Texts as numbers for the tape. */
final class Texts {
    private Texts() {
    }

    /** The twenty signs of a text from a place on as five numbers, 0 behind its end. */
    static int[] five(String text, int from) {
        int[] five = new int[5];
        for (int i = 0; i < 20 && from + i < text.length(); i++) {
            five[i / 4] |= text.charAt(from + i) << (24 - 8 * (i % 4));
        }
        return five;
    }
}
