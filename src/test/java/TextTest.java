import java.util.function.ToLongFunction;

/** The bounds of a text: each number of each LINE, how many of each kind there may be, TOKENS, and which FAULT is told at which place. */
public final class TextTest {
    private static final Check CHECK = new Check("TextTest");
    private static final String SMALL = Texts.SMALL;
    private static final String LONG = "war minutes 60 late 0 peace 0 rain 0;";
    private static final String TRAIN = Texts.TRAIN;
    private static final String TEA = "tea 0 to 1;";
    private static final String CANNON = "cannon 0 at 0 for 1 worth 1;";
    private static final String RULE = "rule 0 to 1;";
    private static final String SPY = "spy knows 0;";

    public static void main(String[] args) {
        warNumbers();
        needNumbers();
        trainNumbers();
        teaNumbers();
        ruleNumbers();
        cannonNumbers();
        spyNumbers();
        longNumbers();
        howMany();
        howManyOfAll();
        warStandsFirst();
        wordsThatCannotStand();
        bytesThatAreNoToken();
        blanks();
        cutTexts();
        twoFaults();
        longestTokens();
        CHECK.finish();
    }

    private static void due(String call, long got, long want) {
        CHECK.due(call, got, want);
    }

    private static WarByHours good(String text) {
        int lines = (int) text.chars().filter(c -> c == ';').count();
        WarByHours x = new WarByHours();
        due("war() of [" + text + "]", Texts.war(x, text), lines);
        due("fault(0) of [" + text + "]", x.fault(0), 0);
        due("fault(1) of [" + text + "]", x.fault(1), -1);
        due("count(9) of [" + text + "]", x.count(9), lines);
        return x;
    }

    private static void bad(String text, int fault, int place) {
        WarByHours x = new WarByHours();
        due("war() of [" + text + "]", Texts.war(x, text), -4);
        due("fault(0) of [" + text + "]", x.fault(0), fault);
        due("fault(1) of [" + text + "]", x.fault(1), place);
    }

    /** The number (#) of the text is taken from low to high, and told then; another one is FAULT 2 at its place, what is no number FAULT 1. */
    private static void bounds(String text, int low, int high, ToLongFunction<WarByHours> told) {
        int place = text.indexOf('#');
        for (int n : new int[] {low, high}) {
            due("[" + text + "] of " + n, told.applyAsLong(good(text.replace("#", Integer.toString(n)))), n);
            due("[" + text + "] of 00" + n, told.applyAsLong(good(text.replace("#", "00" + n))), n);
        }
        if (low > 0) {
            bad(text.replace("#", Integer.toString(low - 1)), 2, place);
        }
        for (String n : new String[] {Integer.toString(high + 1), Integer.toString(10 * high + 10), "2147483648", "4294967296", "4294967297",
            "18446744073709551617"}) {
            bad(text.replace("#", n), 2, place);
        }
        bad(text.replace("#", "-1"), 1, place);
        bad(text.replace("#", "+1"), 1, place);
        bad(text.replace("#", "x"), 1, place);
        bad(text.replace("#", " ;"), 1, place + 1);
    }

    private static void warNumbers() {
        bounds("war minutes # late 0 peace 0 rain 0;", 1, 60, x -> x.count(0));
        bounds("war minutes 1 late # peace 0 rain 0;", 0, 0, x -> x.count(1));
        bounds("war minutes 5 late # peace 0 rain 0;", 0, 4, x -> x.count(1));
        bounds("war minutes 60 late # peace 0 rain 0;", 0, 59, x -> x.count(1));
        bounds("war minutes 5 late 0 peace # rain 0;", 0, 60, x -> x.count(2));
        bounds("war minutes 5 late 0 peace 0 rain #;", 0, 100, x -> x.count(3));
    }

    private static void needNumbers() {
        bounds(SMALL + "need 0 #;", 0, 999, x -> x.need(0));
        bounds(SMALL + "need 1 #;", 0, 999, x -> x.need(1));
        bounds(SMALL + "need # 7;", 0, 1, x -> x.need(0) == 7 ? 0 : x.need(1) == 7 ? 1 : -1);
        WarByHours x = good(SMALL + "need 0 5;need 1 6;need 0 0;");
        due("a later one strikes", x.need(0), 0);
        due("not the other SIDE's", x.need(1), 6);
        due("0 without", good(SMALL).need(1), 0);
    }

    private static void trainNumbers() {
        bounds(SMALL + "train # men 1 due 0 odds 0 by 1 price 0;", 0, 1, x -> x.train(0, 0));
        bounds(SMALL + "train 0 men # due 0 odds 0 by 1 price 0;", 1, 99, x -> x.train(0, 1));
        bounds(SMALL + "train 0 men 1 due # odds 0 by 1 price 0;", 0, 59, x -> x.train(0, 2));
        bounds(SMALL + "train 0 men 1 due 0 odds # by 1 price 0;", 0, 100, x -> x.train(0, 3));
        bounds(SMALL + "train 0 men 1 due 0 odds 0 by # price 0;", 1, 30, x -> x.train(0, 4));
        bounds(SMALL + "train 0 men 1 due 0 odds 0 by 1 price #;", 0, 999, x -> x.train(0, 5));
    }

    private static void teaNumbers() {
        bounds(LONG + "tea # to 59;", 0, 59, TextTest::firstTea);
        bounds(LONG + "tea 0 to #;", 0, 59, TextTest::lastTea);
        bounds(LONG + "tea 30 to #;", 30, 59, TextTest::lastTea);
        bounds(LONG + "tea 59 to #;", 59, 59, TextTest::lastTea);
        WarByHours x = good(SMALL + "tea 5 to 59;");
        due("a TEA behind the last MINUTE is one", x.count(5), 1);
        due("but not in the last", x.tea(4), 0);
    }

    private static long firstTea(WarByHours x) {
        int minute = 0;
        while (minute < 60 && x.tea(minute) == 0) {
            minute++;
        }
        return minute;
    }

    private static long lastTea(WarByHours x) {
        int minute = 59;
        while (minute >= 0 && x.tea(minute) == 0) {
            minute--;
        }
        return minute;
    }

    private static void ruleNumbers() {
        bounds(SMALL + "rule # to 59;", 0, 59, x -> x.rule(0, 0));
        bounds(SMALL + "rule 0 to #;", 0, 59, x -> x.rule(0, 1));
        bounds(SMALL + "rule 30 to #;", 30, 59, x -> x.rule(0, 1));
        bounds(SMALL + "rule 59 to #;", 59, 59, x -> x.rule(0, 1));
    }

    private static void cannonNumbers() {
        bounds(SMALL + "cannon # at 0 for 1 worth 1;", 0, 1, x -> x.cannon(0, 0));
        bounds(SMALL + "cannon 0 at # for 1 worth 1;", 0, 59, x -> x.cannon(0, 1));
        bounds(SMALL + "cannon 0 at 0 for # worth 1;", 1, 20, x -> x.cannon(0, 2));
        bounds(SMALL + "cannon 0 at 0 for 1 worth #;", 1, 99, x -> x.cannon(0, 3));
    }

    /** A TRAIN told ahead; like ones count once. */
    private static void spyNumbers() {
        bounds(SMALL + TRAIN + "spy knows #;", 0, 0, x -> x.spy(0) - 1);
        bounds(SMALL + TRAIN.repeat(9) + "spy knows #;", 0, 8, x -> Integer.numberOfTrailingZeros(x.spy(0)));
        due("a second one, the first", good(SMALL + TRAIN.repeat(3) + "spy knows 1 0;").spy(0), 3);
        due("a second one, the last", good(SMALL + TRAIN.repeat(3) + "spy knows 1 2;").spy(0), 6);
        bad(SMALL + TRAIN.repeat(3) + "spy knows 1 3;", 2, 168);
        bad(SMALL + TRAIN.repeat(3) + "spy knows 1 4294967296;", 2, 168);
        bad(SMALL + TRAIN.repeat(3) + "spy knows 1 x;", 1, 168);
        bounds(SMALL + TRAIN.repeat(3) + "spy knows # 1;", 0, 2, x -> Integer.numberOfTrailingZeros(x.spy(0) & ~2));
        bad(SMALL + "spy knows 0;", 2, 46);
        bad(SMALL + TRAIN + "spy knows 0 1;" + TRAIN, 2, 88);
        bad(SMALL + TRAIN + "spy knows;", 1, 85);
        bad(SMALL + TRAIN + "spy knows", 1, 85);
        due("like ones", good(SMALL + TRAIN + "spy knows 0 0 0 00 0;").spy(0), 1);
        due("all nine", good(SMALL + TRAIN.repeat(9) + "spy knows 8 7 6 5 4 3 2 1 0;").spy(0), 511);
        // 36 + 40 + 9 bytes, and " 0" so often that with ";" there are 1,200
        due("so many", good(SMALL + TRAIN + "spy knows" + " 0".repeat(557) + ";").spy(0), 1);
    }

    /** As many digits as the TAPE has room for. */
    private static void longNumbers() {
        due("1,155 zeros ahead", good(SMALL + "need 1 " + "0".repeat(1153) + "999;").need(1), 999);
        due("nothing but zeros", good(SMALL + "need 1 " + "0".repeat(1156) + ";").need(1), 0);
        bad(SMALL + "need 1 1" + "0".repeat(1155) + ";", 2, 43);
        bad(SMALL + "need 1 " + "9".repeat(1156) + ";", 2, 43);
        bad(SMALL + "need 1 " + "0".repeat(1152) + "1000;", 2, 43);
        bad(SMALL + "need 1 " + "0".repeat(1157), 1, 1200);
        bad(SMALL + "n" + "e".repeat(1163), 1, 36);
    }

    /** The most of a kind are taken; one more is FAULT 3 at its word, whatever stands behind it. */
    private static void most(String ahead, String line, int most, int what) {
        String text = SMALL + ahead + line.repeat(most);
        due(most + " of [" + line + "]", good(text).count(what), most);
        bad(text + line, 3, text.length());
        bad(text + "\n " + line, 3, text.length() + 2);
        bad(text + line.substring(0, line.indexOf(' ')), 3, text.length());
        bad(text + line.substring(0, line.indexOf(' ')) + " x 999 !", 3, text.length());
        bad(text + line.substring(0, line.indexOf(' ') - 1), 1, text.length());
        due("a need behind them", good(text + "need 0 7;").need(0), 7);
    }

    private static void howMany() {
        most("", TRAIN, 9, 4);
        most("", TEA, 4, 5);
        most("", CANNON, 8, 6);
        most("", RULE, 4, 7);
        most(TRAIN, SPY, 5, 8);
        due("a need may stand often", good(SMALL + "need 0 1;".repeat(100)).count(9), 101);
    }

    /** The most of each kind together, by their numbers as they stand. */
    private static void howManyOfAll() {
        StringBuilder text = new StringBuilder(SMALL);
        for (int i = 0; i < 9; i++) {
            text.append("train ").append(i % 2).append(" men ").append(i + 1).append(" due 0 odds 0 by 1 price 0;");
            text.append(i < 8 ? "cannon 0 at " + i + " for 1 worth 1;" : "");
            text.append(i < 4 ? "tea " + i + " to 9;rule " + i + " to 9;" : "");
            text.append(i < 5 ? "spy knows " + i + ";" : "");
        }
        WarByHours x = good(text.toString());
        int[] counts = {9, 4, 8, 4, 5, 31};
        for (int i = 0; i < counts.length; i++) {
            due("count(" + (4 + i) + ")", x.count(4 + i), counts[i]);
        }
        for (int i = 0; i < 9; i++) {
            due("train(" + i + ", 1)", x.train(i, 1), i + 1);
            due("cannon(" + i + ", 1)", x.cannon(i, 1), i < 8 ? i : -2);
            due("rule(" + i + ", 0)", x.rule(i, 0), i < 4 ? i : -2);
            due("spy(" + i + ")", x.spy(i), i < 5 ? 1 << i : -2);
        }
    }

    /** war is the first LINE and no other. */
    private static void warStandsFirst() {
        for (String line : new String[] {"need 0 5;", TRAIN, TEA, CANNON, RULE, SPY, "minutes 5;", "x;", ";", "5;"}) {
            bad(line, 1, 0);
            bad(" \n" + line + SMALL, 1, 2);
        }
        for (String ahead : new String[] {SMALL, SMALL + TRAIN + TEA + CANNON + RULE + SPY}) {
            bad(ahead + SMALL, 1, ahead.length());
            bad(ahead + " war", 1, ahead.length() + 1);
        }
        due("nothing", new WarByHours().war(), 0);
        due("one LINE", good(SMALL).count(9), 1);
    }

    /** Each TOKEN of each LINE in turn is another one, or stands twice: FAULT 1 at the first that can't stand there. */
    private static void wordsThatCannotStand() {
        String[] lines = {"need 1 5 ;", "train 0 men 1 due 0 odds 0 by 1 price 0 ;", "tea 0 to 1 ;", "cannon 0 at 0 for 1 worth 1 ;",
            "rule 0 to 1 ;", "spy knows 0 ;"};
        for (String line : lines) {
            String[] tokens = line.split(" ");
            int at = SMALL.length() + TRAIN.length();
            for (int i = 0; i < tokens.length; i++) {
                String ahead = SMALL + TRAIN + line.substring(0, at - SMALL.length() - TRAIN.length());
                String behind = line.substring(ahead.length() - SMALL.length() - TRAIN.length() + tokens[i].length());
                for (String other : new String[] {"x", "war", "minutes", "A", "!"}) {
                    bad(ahead + other + behind, 1, at);
                }
                if (!tokens[i].equals(";")) {
                    bad(ahead + ";" + behind, 1, at);
                }
                // behind a T another one may stand, behind the need's SIDE a number is due
                boolean mayBeNumber = isNumber(tokens[i]) || line.startsWith("spy") && tokens[i].equals(";");
                if (!mayBeNumber) {
                    bad(ahead + "7" + behind, 1, at);
                }
                boolean mayStandTwice = isNumber(tokens[i]) && (line.startsWith("spy") || line.startsWith("need") && i == 1);
                if (!mayStandTwice) {
                    bad(ahead + tokens[i] + " " + tokens[i] + behind, 1, at + tokens[i].length() + 1);
                }
                at += tokens[i].length() + 1;
            }
        }
    }

    private static boolean isNumber(String token) {
        return Character.isDigit(token.charAt(0));
    }

    /** Each byte that begins no TOKEN: FAULT 1 at its place, at the first place, behind a word, a number, the sign and blanks. */
    private static void bytesThatAreNoToken() {
        for (int sign = 0; sign < 256; sign++) {
            boolean isToken = sign >= 'a' && sign <= 'z' || sign >= '0' && sign <= '9' || sign == ';';
            if (isToken || sign == 32 || sign == 10) {
                continue;
            }
            String s = Character.toString((char) sign);
            bad(s + SMALL, 1, 0);
            bad(SMALL + s, 1, 36);
            bad(SMALL + " \n" + s, 1, 38);
            bad("war" + s + SMALL.substring(3), 1, 3);
            bad("wa" + s + SMALL.substring(3), 1, 0);
            bad("war minutes 5" + s + SMALL.substring(13), 1, 13);
            bad("war minutes 5" + s + "0 late 2 peace 0 rain 0;", 1, 13);
            bad(SMALL.substring(0, 35) + s + ";", 1, 35);
            bad(SMALL.substring(0, 35) + s, 1, 35);
        }
        // bytes that can begin a TOKEN, but not there
        for (int sign = 'a'; sign <= 'z'; sign++) {
            bad(SMALL + (char) sign, 1, 36);
        }
        for (int sign = '0'; sign <= '9'; sign++) {
            bad(SMALL + (char) sign, 1, 36);
        }
        bad(SMALL + ";", 1, 36);
    }

    /** Blanks (32, 10) may stand between all TOKENS, and need not where a TOKEN ends by itself. */
    private static void blanks() {
        for (String blank : new String[] {" ", "\n", "  ", " \n\n "}) {
            String text = blank + "war minutes 5 late 2 peace 0 rain 0 ; need 1 7 ;".replace(" ", blank) + blank;
            due("need(1)", good(text).need(1), 7);
        }
        due("need(1)", good("war minutes5late2peace0rain0;need1 7;").need(1), 7);
        due("train(0, 5)", good(SMALL + "train0men1due0odds0by1price8;").train(0, 5), 8);
        due("spy(0)", good(SMALL + TRAIN.repeat(2) + "spy knows0 1;").spy(0), 3);
        bad("warminutes 5 late 2 peace 0 rain 0;", 1, 0);
        bad(SMALL + "spyknows 0;", 1, 36);
        bad(SMALL + "need 17;", 2, 41);
        bad(SMALL + "need 1 7 7;", 1, 45);
        due("blanks alone", good(" \n".repeat(600)).count(9), 0);
        due("one blank", good(" ").count(9), 0);
    }

    /** The whole text, ended behind each byte: a word that is cut is FAULT 1 at its first byte, else the end is, at its own. */
    private static void cutTexts() {
        String text = Texts.WHOLE + " \n";
        int lines = 0;
        for (int n = 1; n < text.length(); n++) {
            boolean isBehindLine = text.substring(0, n).trim().endsWith(";");
            if (isBehindLine) {
                good(text.substring(0, n));
                lines += text.charAt(n - 1) == ';' ? 1 : 0;
                continue;
            }
            int place = n;
            if (isLetter(text.charAt(n - 1)) && isLetter(text.charAt(n))) {
                while (place > 0 && isLetter(text.charAt(place - 1))) {
                    place--;
                }
            }
            bad(text.substring(0, n), 1, place);
        }
        due("LINES", lines, 15);
    }

    private static boolean isLetter(char sign) {
        return sign >= 'a' && sign <= 'z';
    }

    /** The first FAULT by its place, whichever kind the later ones are of. */
    private static void twoFaults() {
        bad("war minutes 0 late 9 x", 2, 12);
        bad("war minutes 5 late 9 peace 99 rain 999;", 2, 19);
        bad("war x minutes 99;", 1, 4);
        bad(SMALL + "need 2 1000;", 2, 41);
        bad(SMALL + "tea 60 to 0;!", 2, 40);
        bad(SMALL + "tea 9 to 8;x", 2, 45);
        bad(SMALL + TEA.repeat(4) + "need 0 1000;" + TEA, 2, 87);
        bad(SMALL + TEA.repeat(4) + TEA + "need 0 1000;", 3, 80);
        bad(SMALL + TEA.repeat(4) + "need 0 1" + TEA, 1, 88);
        bad(SMALL + TRAIN.repeat(9) + "spy knows 9;" + TRAIN, 2, 406);
        bad(SMALL + TRAIN.repeat(10) + "spy knows 9;", 3, 396);
        bad(SMALL + "spy knows 0;" + TRAIN, 2, 46);
    }

    /** A TOKEN is the longest that it can be. */
    private static void longestTokens() {
        bad("warwar", 1, 0);
        bad("wars minutes 5", 1, 0);
        bad("war minutess 5", 1, 4);
        bad("war minute 5", 1, 4);
        bad(SMALL + "needs 0 5;", 1, 36);
        bad(SMALL + "nee d 0 5;", 1, 36);
        bad(SMALL + "teas 0 to 1;", 1, 36);
        bad(SMALL + "te a 0 to 1;", 1, 36);
        bad(SMALL + "tea 0 too 1;", 1, 42);
        bad(SMALL + "tea 0 t o 1;", 1, 42);
        bad(SMALL + "tea 0 to 1 1;", 1, 47);
        bad("war minutes 6 0 late 0 peace 0 rain 0;", 1, 14);
        bad("war minutes 600 late 0 peace 0 rain 0;", 2, 12);
    }
}
