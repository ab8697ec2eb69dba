/** Texts, as feed() takes them. */
final class Texts {
    static final String SMALL = "war minutes 5 late 2 peace 0 rain 0;";

    /**
     * FRONT behind 0 .. 10 MINUTES without DELAYS: 0 1 0 1 2 2 2 2 3 4 5; by TRAIN 0 late: 0 1 0 -1 -2 -2 -2 -2 -1 0 1;
     * by all late: 0 0 0 1 2 2 2 2 3 4 5.
     * FRONT in the end by the DELAYS 0 .. 7: 5 1 4 0 7 7 5 5; LATE: 0 1 0 1 2 3 2 3; so who WINS: 0 1 0 1 0 0 0 0.
     */
    static final String WHOLE = "war minutes 10 late 4 peace 2 rain 30;need 0 10;need 1 8;"
        + "train 0 men 6 due 2 odds 10 by 3 price 3;"
        + "train 0 men 6 due 0 odds 20 by 2 price 2;"
        + "train 1 men 9 due 1 odds 50 by 4 price 4;"
        + "tea 4 to 6;"
        + "cannon 0 at 0 for 3 worth 5;cannon 1 at 2 for 2 worth 4;cannon 0 at 3 for 2 worth 3;"
        + "rule 2 to 5;rule 5 to 7;"
        + "spy knows 0 1;spy knows 2 1;spy knows 0 0;";

    /** Has nothing but what every TRAIN must have. */
    static final String TRAIN = "train 0 men 1 due 0 odds 0 by 1 price 0;";

    private Texts() {
    }

    /** The five numbers of the twenty bytes from a place on; what is beyond the text is 0. */
    static int[] numbers(String text, int from) {
        int[] numbers = new int[5];
        for (int i = 0; i < 20; i++) {
            int sign = from + i < text.length() ? text.charAt(from + i) & 255 : 0;
            numbers[i / 4] = numbers[i / 4] << 8 | sign;
        }
        return numbers;
    }

    static void put(WarByHours x, String text) {
        x.end(0);
        for (int from = 0; from < text.length(); from += 20) {
            int[] n = numbers(text, from);
            x.feed(n[0], n[1], n[2], n[3], n[4]);
        }
        x.end(text.length());
    }

    static int war(WarByHours x, String text) {
        put(x, text);
        return x.war();
    }

    static WarByHours told(Check check, String text) {
        WarByHours x = new WarByHours();
        check.that("not a WAR: " + text, war(x, text) > 0);
        return x;
    }
}
