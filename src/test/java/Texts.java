/** Texts, as feed() takes them. */
final class Texts {
    private Texts() {
    }

    /** The five numbers of the twenty bytes from a place on; what is beyond the text is 0. */
    static int[] numbers(String text, int from) {
        int[] numbers = new int[5];
        for (int i = 0; i < 20; i++) {
            int sign = from + i < text.length() ? text.charAt(from + i) & 255 : 0;
            numbers[i / 4] = numbers[i / 4] << 8 | sign;
        }
        return numbers;
    }

    static void put(WarByHours x, String text) {
        x.end(0);
        for (int from = 0; from < text.length(); from += 20) {
            int[] n = numbers(text, from);
            x.feed(n[0], n[1], n[2], n[3], n[4]);
        }
        x.end(text.length());
    }

    static int war(WarByHours x, String text) {
        put(x, text);
        return x.war();
    }
}
