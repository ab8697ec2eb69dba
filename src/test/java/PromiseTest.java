/** Each promise by answers that were worked out by hand from the document. */
public final class PromiseTest {
    private static final Check CHECK = new Check("PromiseTest");

    private static final String TEXT = Texts.WHOLE;
    private static final String SMALL = Texts.SMALL;

    public static void main(String[] args) {
        newObject();
        tape();
        texts();
        faults();
        limits();
        toldThings();
        course();
        worstCases();
        chances();
        sending();
        bribing();
        spoiling();
        placesHeld();
        peace();
        treatiesOfAll();
        suspects();
        cannonShared();
        wednesdays();
        changes();
        wars();
        counts();
        imagesOfAll();
        rowsOfNumbers();
        numbersInside();
        CHECK.finish();
    }

    private static void due(String call, long got, long want) {
        CHECK.due(call, got, want);
    }

    private static void due(String call, int[] got, int... want) {
        due(call + ", how many", got.length, want.length);
        for (int i = 0; i < got.length && i < want.length; i++) {
            due(call + ", " + i, got[i], want[i]);
        }
    }

    private static WarByHours told(String text) {
        return Texts.told(CHECK, text);
    }

    /** Promise 1: no WAR, so what asks for one has none. */
    private static void newObject() {
        WarByHours x = new WarByHours();
        due("new fault(0)", x.fault(0), 0);
        due("new fault(1)", x.fault(1), WarByHours.NONE);
        noWar(x);
        for (int what = 0; what <= 12; what++) {
            due("new count(" + what + ")", x.count(what), 0);
        }
        due("new back(0)", x.back(0), -6);
        due("new write", x.write(0, 0, 1), -6);
        due("new paste", x.paste(0, 0, 1, 0, 0), -6);
        due("NONE", WarByHours.NONE, -1);
    }

    private static void noWar(WarByHours x) {
        due("-2 without WAR", new int[] {x.train(0, 0), x.need(0), x.tea(0), x.cannon(0, 0), x.rule(0, 0), x.spy(0), x.men(0, 0, 0),
            x.late(0), x.wins(0), x.peak(0, 0), x.swings(0), x.by(0), x.ways(0), x.idle(), (int) x.enough(0, 0), (int) x.chance(0, 1),
            x.send(0), x.sent(0), x.fewest(0), x.risk(0, 0), x.risked(0, 0), x.bribe(0), x.bribed(0), x.guard(0), x.guarded(0),
            x.spoils(0, 0), x.rests(0), x.since(0, 0), x.comes(0, 0), (int) x.even(0), x.readings(0), (int) x.loopholes(), x.close(0),
            x.closed(0), x.signs(), (int) x.treaties(0), x.price(1, 0), x.spies(0), x.watch(0), x.leaves(0), x.known(0, 0), x.grant(),
            x.granted(), x.halves(), x.halved(), (int) x.dry(1, 0, 0), x.insist(0), x.tell(0, 0, 0), x.needs(0, 0), x.undo(),
            x.drawn(0, 0), x.luck(0, 1, 0)},
            java.util.stream.IntStream.range(0, 52).map(i -> -2).toArray());
        due("-1,000 without WAR", new int[] {x.front(0, 0), x.worst(0), x.spoil(0, 0), x.answer(0, 0)}, -1000, -1000, -1000, -1000);
        due("hold needs no WAR", new int[] {x.hold(1, 0), x.holds(1, 0, 2), x.reply(0, 1, 2)}, 1, 1, 1);
    }

    /** Promises 2 and 3. */
    private static void tape() {
        WarByHours x = new WarByHours();
        for (int n = 20; n <= 1200; n += 20) {
            due("feed", x.feed(0, 0, 0, 0, 0), n);
        }
        due("feed beyond 1,200", x.feed(0, 0, 0, 0, 0), -1);
        due("count(10)", x.count(10), 1200);
        due("end(1201)", x.end(1201), -1);
        due("end(-1)", x.end(-1), -1);
        due("end(1181)", x.end(1181), 1181);
        due("feed, 1201 together", x.feed(0, 0, 0, 0, 0), -1);
        due("end(1180)", x.end(1180), 1180);
        due("feed, 1200 together", x.feed(0, 0, 0, 0, 0), 1200);
        due("end(1200)", x.end(1200), 1200);
        due("end(0)", x.end(0), 0);
        due("count(10) then", x.count(10), 0);
        // "war minutes 5 late 2 peace 0 rain 0;", each four bytes a number, the highest first
        due("feed", x.feed(0x77617220, 0x6d696e75, 0x74657320, 0x35206c61, 0x74652032), 20);
        due("feed", x.feed(0x20706561, 0x63652030, 0x20726169, 0x6e20303b, 0xff00ff00), 40);
        due("end(36)", x.end(36), 36);
        due("war()", x.war(), 1);
    }

    /** Promise 4: what a text may be, and what war() leaves. */
    private static void texts() {
        WarByHours x = new WarByHours();
        due("war() of the whole text", Texts.war(x, TEXT), 15);
        due("TAPE is empty then", x.count(10), 0);
        due("a FAULT", Texts.war(x, "war;"), -4);
        due("the WAR stays", new int[] {x.count(9), x.front(10, 0), x.train(0, 1)}, 15, 5, 6);
        due("the TAPE is empty behind a FAULT too", new int[] {x.count(10), x.end(1)}, 0, -1);
        x.needs(0, 3);
        due("a FAULT", Texts.war(x, "war;"), -4);
        due("changes stay", new int[] {x.count(11), x.need(0), x.undo(), x.need(0)}, 1, 3, 0, 10);
        x.needs(0, 3);
        due("another one in its place", Texts.war(x, SMALL), 1);
        due("all of it", new int[] {x.count(0), x.count(1), x.count(2), x.count(3), x.count(4), x.count(5), x.count(6), x.count(7),
            x.count(8), x.count(9), x.count(11), x.need(0), x.need(1)}, 5, 2, 0, 0, 0, 0, 0, 0, 0, 1, 0, 0, 0);
        due("an empty TAPE", x.war(), 0);
        noWar(x);
        due("blanks alone", Texts.war(x, " \n \n"), 0);
        due("without blanks", Texts.war(x, "war minutes5late2peace0rain0;need0 7;need 0 0 0 9 ;".replace("0 0 0 9", "0\n0009")), 3);
        due("a later need strikes", x.need(0), 9);
        due("many blanks", Texts.war(x, "\n\n war\nminutes 60\n late 59 peace 60 rain 100  \n;\n "), 1);
        due("its numbers", new int[] {x.count(0), x.count(1), x.count(2), x.count(3)}, 60, 59, 60, 100);
        due("bounds", Texts.war(x, SMALL + "need 1 999;need 1 0;train 1 men 99 due 59 odds 100 by 30 price 999;"
            + "train 0 men 1 due 0 odds 0 by 1 price 0;tea 0 to 0;tea 59 to 59;cannon 1 at 59 for 20 worth 99;cannon 0 at 0 for 1 worth 1;"
            + "rule 0 to 59;rule 3 to 3;spy knows 1 0 1;"), 12);
    }

    private static void bad(String text, int fault, int place) {
        WarByHours x = new WarByHours();
        due("war() of [" + text + "]", Texts.war(x, text), -4);
        due("fault(0) of [" + text + "]", x.fault(0), fault);
        due("fault(1) of [" + text + "]", x.fault(1), place);
        due("fault(2)", x.fault(2), -1);
        due("fault(-1)", x.fault(-1), -1);
        due("no WAR by [" + text + "]", x.count(9), 0);
        Texts.war(x, SMALL);
        due("fault(0) of the latest", x.fault(0), 0);
        due("fault(1) of the latest", x.fault(1), -1);
    }

    private static void badLine(String line, int fault, int place) {
        bad(SMALL + line, fault, SMALL.length() + place);
    }

    /** Promise 5, and the FAULTS of the text block. */
    private static void faults() {
        bad("war minutes 5;", 1, 13);
        bad("war", 1, 3);
        bad("war ", 1, 4);
        bad("need 0 5;", 1, 0);
        bad(";", 1, 0);
        bad(" 5", 1, 1);
        bad("War minutes", 1, 0);
        bad("warminutes 5", 1, 0);
        bad("warz minutes 5", 1, 0);
        bad("warA minutes 5", 1, 3);
        bad("war minutes 5/", 1, 13);
        bad("war minutes 5:", 1, 13);
        bad("war minutes 5`", 1, 13);
        bad("war minutes 5{", 1, 13);
        bad("war minutes 0 late 0 peace 0 rain 0;", 2, 12);
        bad("war minutes 61 late 0 peace 0 rain 0;", 2, 12);
        bad("war minutes 5 late 5 peace 0 rain 0;", 2, 19);
        bad("war minutes 5 late 4 peace 61 rain 0;", 2, 27);
        bad("war minutes 5 late 4 peace 60 rain 101;", 2, 35);
        bad("war minutes 99999999999999999999 late", 2, 12);
        bad("war minutes 4294967297 late 0 peace 0 rain 0;", 2, 12);
        bad("war minutes 5 late 4 peace 60 rain 100", 1, 38);
        bad("war minutes 5 late 4 peace 60 rain 100  ", 1, 40);
        bad("war minutes 5\tlate 4 peace 60 rain 100;", 1, 13);
        bad("war minutes 5 late 4 peace 60 rain 100;;", 1, 39);
        badLine(SMALL, 1, 0);
        badLine("x;", 1, 0);
        badLine("7;", 1, 0);
        badLine("need 2 5;", 2, 5);
        badLine("need 0 1000;", 2, 7);
        badLine("need 0;", 1, 6);
        badLine("need 0 5 5;", 1, 9);
        badLine("need 0 -5;", 1, 7);
        badLine("need 0 5,", 1, 8);
        badLine("train 2 men 1 due 0 odds 0 by 1 price 0;", 2, 6);
        badLine("train 0 men 0 due 0 odds 0 by 1 price 0;", 2, 12);
        badLine("train 0 men 100 due 0 odds 0 by 1 price 0;", 2, 12);
        badLine("train 0 men 1 due 60 odds 0 by 1 price 0;", 2, 18);
        badLine("train 0 men 1 due 0 odds 101 by 1 price 0;", 2, 25);
        badLine("train 0 men 1 due 0 odds 0 by 0 price 0;", 2, 30);
        badLine("train 0 men 1 due 0 odds 0 by 31 price 0;", 2, 30);
        badLine("train 0 men 1 due 0 odds 0 by 1 price 1000;", 2, 38);
        badLine("train 0 men 1 odds 0 due 0 by 1 price 0;", 1, 14);
        badLine("trains 0 men 1", 1, 0);
        badLine("tea 5 to 4;", 2, 9);
        badLine("tea 60 to 60;", 2, 4);
        badLine("tea 0 to 60;", 2, 9);
        badLine("tea 0 0;", 1, 6);
        badLine("rule 5 to 4;", 2, 10);
        badLine("rule 60 to 4;", 2, 5);
        badLine("cannon 2 at 0 for 1 worth 1;", 2, 7);
        badLine("cannon 0 at 60 for 1 worth 1;", 2, 12);
        badLine("cannon 0 at 0 for 0 worth 1;", 2, 18);
        badLine("cannon 0 at 0 for 21 worth 1;", 2, 18);
        badLine("cannon 0 at 0 for 1 worth 0;", 2, 26);
        badLine("cannon 0 at 0 for 1 worth 100;", 2, 26);
        badLine("spy knows;", 1, 9);
        badLine("spy knows 0;", 2, 10);
        badLine("train 0 men 1 due 0 odds 0 by 1 price 0;spy knows 1;", 2, 50);
        badLine("train 0 men 1 due 0 odds 0 by 1 price 0;spy knows 0 1;", 2, 52);
        badLine("train 0 men 1 due 0 odds 0 by 1 price 0;spy knows 0 x;", 1, 52);
        badLine("spy knows 0;train 0 men 1 due 0 odds 0 by 1 price 0;", 2, 10);
        badLine("need 0 5" + (char) 200 + ";", 1, 8);
    }

    private static void tooMany(String ahead, String line, int most) {
        StringBuilder text = new StringBuilder(SMALL).append(ahead);
        for (int i = 0; i < most; i++) {
            text.append(line);
        }
        WarByHours x = new WarByHours();
        due("war() of " + most + " " + line, Texts.war(x, text.toString()), most + (ahead.isEmpty() ? 1 : 2));
        bad(text + line, 3, text.length());
        bad(text + line.substring(0, line.indexOf(' ')), 3, text.length());
    }

    private static void limits() {
        String train = "train 0 men 1 due 0 odds 0 by 1 price 0;";
        tooMany("", train, 9);
        tooMany("", "tea 0 to 1;", 4);
        tooMany("", "cannon 0 at 0 for 1 worth 1;", 8);
        tooMany("", "rule 0 to 1;", 4);
        tooMany(train, "spy knows 0;", 5);
    }

    /** Promises 6 to 11. */
    private static void toldThings() {
        WarByHours x = told(TEXT);
        due("train 0", new int[] {x.train(0, 0), x.train(0, 1), x.train(0, 2), x.train(0, 3), x.train(0, 4), x.train(0, 5)},
            0, 6, 2, 10, 3, 3);
        due("train 2", new int[] {x.train(2, 0), x.train(2, 1), x.train(2, 2), x.train(2, 3), x.train(2, 4), x.train(2, 5)},
            1, 9, 1, 50, 4, 4);
        due("train, none such", new int[] {x.train(3, 0), x.train(-1, 0), x.train(0, 6), x.train(0, -1)}, -2, -2, -2, -2);
        due("need", new int[] {x.need(0), x.need(1), x.need(2), x.need(-1)}, 10, 8, -2, -2);
        due("tea", new int[] {x.tea(0), x.tea(3), x.tea(4), x.tea(5), x.tea(6), x.tea(7), x.tea(9), x.tea(10), x.tea(-1)},
            0, 0, 1, 1, 1, 0, 0, -2, -2);
        due("cannon", new int[] {x.cannon(1, 0), x.cannon(1, 1), x.cannon(1, 2), x.cannon(1, 3), x.cannon(2, 1)}, 1, 2, 2, 4, 3);
        due("cannon, none such", new int[] {x.cannon(3, 0), x.cannon(-1, 0), x.cannon(0, 4), x.cannon(0, -1)}, -2, -2, -2, -2);
        due("rule", new int[] {x.rule(0, 0), x.rule(0, 1), x.rule(1, 0), x.rule(1, 1)}, 2, 5, 5, 7);
        due("rule, none such", new int[] {x.rule(2, 0), x.rule(-1, 0), x.rule(0, 2), x.rule(0, -1)}, -2, -2, -2, -2);
        due("spy", new int[] {x.spy(0), x.spy(1), x.spy(2), x.spy(3), x.spy(-1)}, 3, 6, 1, -2, -2);
    }

    /** Promises 12 to 17 and 37 to 39. */
    private static void course() {
        WarByHours x = told(TEXT);
        due("men", new int[] {x.men(0, 0, 0), x.men(0, 1, 0), x.men(0, 2, 0), x.men(0, 2, 1), x.men(0, 4, 1), x.men(0, 5, 1),
            x.men(0, 1, 2), x.men(0, 2, 2), x.men(1, 0, 0), x.men(1, 1, 0), x.men(1, 4, 4), x.men(1, 5, 4), x.men(1, 99, 7)},
            6, 6, 12, 6, 6, 12, 0, 12, 0, 9, 0, 9, 9);
        due("men, none such", new int[] {x.men(2, 0, 0), x.men(-1, 0, 0), x.men(0, 100, 0), x.men(0, -1, 0), x.men(0, 0, 8), x.men(0, 0, -1)},
            -2, -2, -2, -2, -2, -2);
        int[] front = {0, 1, 0, 1, 2, 2, 2, 2, 3, 4, 5};
        int[] late = {0, 1, 0, -1, -2, -2, -2, -2, -1, 0, 1};
        for (int n = 0; n <= 10; n++) {
            due("front(" + n + ", 0)", x.front(n, 0), front[n]);
            due("front(" + n + ", 1)", x.front(n, 1), late[n]);
        }
        due("front by all DELAYS", new int[] {x.front(10, 2), x.front(10, 3), x.front(10, 4), x.front(10, 5), x.front(10, 6), x.front(10, 7)},
            4, 0, 7, 7, 5, 5);
        due("front, none such", new int[] {x.front(11, 0), x.front(-1, 0), x.front(0, 8), x.front(0, -1)}, -1000, -1000, -1000, -1000);
        due("late", new int[] {x.late(0), x.late(1), x.late(2), x.late(3), x.late(4), x.late(5), x.late(6), x.late(7), x.late(8), x.late(-1)},
            0, 1, 0, 1, 2, 3, 2, 3, -2, -2);
        due("wins", new int[] {x.wins(0), x.wins(1), x.wins(2), x.wins(3), x.wins(4), x.wins(5), x.wins(6), x.wins(7), x.wins(8), x.wins(-1)},
            0, 1, 0, 1, 0, 0, 0, 0, -2, -2);
        due("peak", new int[] {x.peak(0, 0), x.peak(1, 0), x.peak(0, 1), x.peak(1, 1), x.peak(2, 0), x.peak(-1, 0), x.peak(0, 8)},
            10, 0, 1, 4, -2, -2, -2);
        due("swings", new int[] {x.swings(0), x.swings(1), x.swings(2), x.swings(3), x.swings(8), x.swings(-1)}, 0, 2, 1, 0, -2, -2);
        due("since", new int[] {x.since(0, 0), x.since(0, 1), x.since(0, 2), x.since(1, 0), x.since(1, 4), x.since(2, 0), x.since(0, 8)},
            2, 5, 2, 1, 5, -2, -2);
        due("comes", new int[] {x.comes(0, 0), x.comes(1, 0), x.comes(2, 0), x.comes(2, 3), x.comes(5, 5), x.comes(99, 0), x.comes(100, 0),
            x.comes(-1, 0), x.comes(0, 8)}, 2, 4, 1, 2, 5, 0, -2, -2, -2);
        due("even(0)", x.even(0), 0);
        due("even(6)", x.even(6), 3);
        due("even(2)", x.even(2), 1);
        due("even(8)", x.even(8), -2);
        due("even(-1)", x.even(-1), -2);
        WarByHours y = told("war minutes 60 late 0 peace 0 rain 0;need 0 1;train 1 men 1 due 59 odds 0 by 30 price 0;tea 3 to 59;");
        due("even, MINUTES to the last", y.even(0), (1L << 59) - 1);
        due("even, tea or not", y.even(1), (1L << 60) - 1);
        due("since: in none", y.since(0, 0), -1);
        due("since: no need", y.since(1, 0), 0);
        due("comes late", y.comes(89, 1), 1);
        due("nobody WINS by FRONT", told(SMALL).wins(0), -1);
        due("just the other one LATE", y.wins(0), 1);
    }

    /** Promises 18 to 21. */
    private static void worstCases() {
        WarByHours x = told(TEXT);
        due("worst", new int[] {x.worst(0), x.worst(1), x.worst(2), x.worst(-1)}, 0, -7, -1000, -1000);
        due("by", new int[] {x.by(0), x.by(1), x.by(2), x.by(-1)}, 3, 4, -2, -2);
        due("ways", new int[] {x.ways(0), x.ways(1), x.ways(2), x.ways(-1)}, 6, 2, -2, -2);
        due("idle", x.idle(), 2);
        WarByHours y = told(SMALL + "train 0 men 1 due 0 odds 0 by 1 price 0;train 0 men 1 due 0 odds 0 by 1 price 0;"
            + "train 0 men 1 due 3 odds 0 by 1 price 0;train 1 men 1 due 3 odds 0 by 9 price 0;");
        due("worst by two", new int[] {y.worst(0), y.by(0), y.worst(1), y.by(1)}, 4, 3, -5, 0);
        WarByHours z = told(SMALL + "train 0 men 1 due 0 odds 0 by 9 price 0;train 0 men 1 due 0 odds 0 by 9 price 0;"
            + "train 0 men 2 due 0 odds 0 by 9 price 0;train 1 men 3 due 0 odds 0 by 1 price 0;");
        due("the fewest (4) ahead of the least set (3)", new int[] {z.worst(0), z.by(0)}, -5, 4);
        due("no TRAINS", new int[] {told(SMALL).worst(1), told(SMALL).by(1), told(SMALL).ways(0), told(SMALL).idle()}, 0, 0, 0, 0);
    }

    /** Promises 22 and 23, III. */
    private static void chances() {
        WarByHours x = told(TEXT);
        due("enough(0, 0)", x.enough(0, 0), 9);
        due("enough(0, 1)", x.enough(0, 1), 10);
        due("enough(1, 0)", x.enough(1, 0), 1);
        due("enough(1, 1)", x.enough(1, 1), 2);
        due("chance(0, 0)", x.chance(0, 0), 19);
        due("chance(0, 1)", x.chance(0, 1), 20);
        due("chance(1, 0)", x.chance(1, 0), 1);
        due("chance(1, 1)", x.chance(1, 1), 20);
        due("enough, none such", new int[] {(int) x.enough(2, 0), (int) x.enough(-1, 0), (int) x.enough(0, 2), (int) x.enough(0, -1)}, -2, -2, -2, -2);
        due("chance, none such", new int[] {(int) x.chance(2, 0), (int) x.chance(-1, 0), (int) x.chance(0, 2), (int) x.chance(0, -1)}, -2, -2, -2, -2);
        WarByHours y = told(SMALL + "need 0 1;");
        due("0 / 1", new int[] {(int) y.enough(0, 0), (int) y.enough(0, 1), (int) y.enough(1, 0), (int) y.enough(1, 1)}, 0, 1, 1, 1);
        StringBuilder nine = new StringBuilder(SMALL).append("need 0 9;");
        for (int i = 0; i < 9; i++) {
            nine.append("train 0 men 1 due 0 odds 1 by 9 price 0;");
        }
        WarByHours z = told(nine.toString());
        due("99 to the ninth", z.enough(0, 0), 913517247483640899L);
        due("100 to the ninth", z.enough(0, 1), 1000000000000000000L);
        due("the rest", z.chance(1, 0), 1000000000000000000L - 913517247483640899L);
    }

    /** Promises 24 to 28. */
    private static void sending() {
        WarByHours x = told(TEXT);
        due("send: by none", new int[] {x.send(0), x.sent(0), x.fewest(0), x.send(1), x.sent(1), x.fewest(1)}, -1, -1, -1, -1, -1, -1);
        due("risk", new int[] {x.risk(0, 90), x.risked(0, 90), x.risk(0, 91), x.risked(0, 91), x.risk(0, 0), x.risked(0, 0), x.risk(0, 1),
            x.risk(1, 50), x.risked(1, 50), x.risk(1, 51)}, 5, 3, -1, -1, 0, 0, 5, 4, 4, -1);
        due("send, none such", new int[] {x.send(2), x.send(-1), x.sent(2), x.sent(-1), x.fewest(2), x.fewest(-1)}, -2, -2, -2, -2, -2, -2);
        due("risk, none such", new int[] {x.risk(2, 0), x.risk(-1, 0), x.risk(0, 101), x.risk(0, -1), x.risked(2, 0), x.risked(0, 101),
            x.risked(0, -1)}, -2, -2, -2, -2, -2, -2, -2);
        // need 6 in MINUTE 2: TRAIN 1 and 2 for 4 together, TRAIN 3 alone for 5, TRAIN 0 is too late if it is late
        String text = SMALL + "need 0 6;train 0 men 9 due 2 odds 1 by 1 price 0;train 0 men 3 due 0 odds 50 by 2 price 2;"
            + "train 0 men 3 due 1 odds 50 by 1 price 2;train 0 men 6 due 0 odds 99 by 1 price 5;train 1 men 9 due 0 odds 0 by 1 price 0;";
        WarByHours y = told(text);
        due("send", new int[] {y.send(0), y.sent(0), y.fewest(0), y.send(1), y.sent(1), y.fewest(1)}, 4, 6, 1, 0, 0, 0);
        due("risk, TRAIN 0 for nothing", new int[] {y.risk(0, 99), y.risked(0, 99), y.risk(0, 100), y.risked(0, 100)}, 0, 1, 4, 6);
        y.tell(3, 2, 4);
        due("the least set of one price", new int[] {y.send(0), y.sent(0)}, 4, 6);
        y.tell(3, 2, 3);
        due("the least price", new int[] {y.send(0), y.sent(0)}, 3, 8);
        y.tell(0, 1, 0);
        due("never late is sure", new int[] {y.send(0), y.sent(0)}, 0, 1);
        y.tell(0, 1, 100);
        due("always late is not", new int[] {y.send(0), y.sent(0), y.risk(0, 1)}, 3, 8, 3);
    }

    /** Promises 29 to 32. */
    private static void bribing() {
        WarByHours x = told(TEXT);
        due("bribe", new int[] {x.bribe(0), x.bribed(0), x.bribe(1), x.bribed(1)}, 3, 1, 4, 4);
        due("guard", new int[] {x.guard(0), x.guarded(0), x.guard(1), x.guarded(1)}, 0, -1, 2, -1);
        due("bribe, none such", new int[] {x.bribe(2), x.bribe(-1), x.bribed(2), x.bribed(-1), x.guard(2), x.guard(-1), x.guarded(2),
            x.guarded(-1)}, -2, -2, -2, -2, -2, -2, -2, -2);
        x.needs(0, 13);
        due("LATE for nothing", new int[] {x.bribe(0), x.bribed(0), x.guard(0), x.guarded(0)}, 0, 0, -1, -2);
        x.needs(0, 6);
        due("LATE by none", new int[] {x.bribe(0), x.bribed(0), x.guard(0), x.guarded(0)}, -1, -1, -1, -2);
        // three TRAINS of 4, need 9: each alone is enough to be LATE; need 8 takes two of them
        String text = SMALL + "need 0 9;train 0 men 4 due 0 odds 0 by 9 price 5;train 0 men 4 due 0 odds 0 by 9 price 3;"
            + "train 0 men 4 due 0 odds 0 by 9 price 3;";
        WarByHours y = told(text);
        due("the least set of one price", new int[] {y.bribe(0), y.bribed(0), y.guard(0), y.guarded(0)}, 3, 2, -1, -2);
        y.needs(0, 8);
        due("two of them", new int[] {y.bribe(0), y.bribed(0), y.guard(0), y.guarded(0)}, 6, 6, 1, 8);
        y.tell(2, 2, 4);
        due("the one by which it is most", new int[] {y.bribe(0), y.guard(0), y.guarded(0)}, 7, 1, 9);
        y.tell(1, 2, 5);
        due("5, 5, 4", new int[] {y.bribe(0), y.bribed(0), y.guard(0), y.guarded(0)}, 9, 5, 2, 10);
    }

    /** Promises 33 to 36. */
    private static void spoiling() {
        WarByHours x = told(TEXT);
        due("spoil", new int[] {x.spoil(0, 0), x.spoil(0, 2), x.spoil(0, 3), x.spoil(0, 4), x.spoil(0, 5), x.spoil(0, 999), x.spoil(1, 3),
            x.spoil(1, 4)}, 5, 4, 1, 1, 0, 0, -5, -7);
        due("spoils", new int[] {x.spoils(0, 0), x.spoils(0, 2), x.spoils(0, 3), x.spoils(0, 5), x.spoils(1, 3), x.spoils(1, 4)}, 0, 2, 1, 3, 0, 4);
        due("answer", new int[] {x.answer(0, 4), x.answer(0, 2), x.answer(0, 0), x.answer(1, 4), x.answer(1, 3), x.answer(1, 0)},
            5, 4, 5, -5, -1, -5);
        due("rests", new int[] {x.rests(4), x.rests(0), x.rests(1000), x.rests(-1)}, 1, 1, -2, -2);
        due("spoil, none such", new int[] {x.spoil(2, 0), x.spoil(-1, 0), x.spoil(0, 1000), x.spoil(0, -1)}, -1000, -1000, -1000, -1000);
        due("spoils, none such", new int[] {x.spoils(2, 0), x.spoils(-1, 0), x.spoils(0, 1000), x.spoils(0, -1)}, -2, -2, -2, -2);
        due("answer, none such", new int[] {x.answer(2, 0), x.answer(-1, 0), x.answer(0, 1000), x.answer(0, -1)}, -1000, -1000, -1000, -1000);
        // no TRAIN matters, so each pair is a REST; the dear one is never bought
        WarByHours y = told(SMALL + "train 0 men 1 due 50 odds 0 by 1 price 1;train 1 men 1 due 50 odds 0 by 1 price 1;"
            + "train 0 men 1 due 50 odds 0 by 1 price 999;");
        due("rests, all of them", new int[] {y.rests(0), y.rests(1), y.rests(998), y.rests(999)}, 1, 4, 4, 6);
    }

    /** Promises 40 to 42. */
    private static void placesHeld() {
        WarByHours x = new WarByHours();
        due("hold", new int[] {x.hold(0, 0), x.hold(1, 0), x.hold(0, 1), x.hold(1, 1), x.hold(2, 1), x.hold(3, 0), x.hold(9, 0), x.hold(0, 9),
            x.hold(9, 1)}, 0, 1, -1, 0, 1, 3, 3, -3, 3);
        due("holds", new int[] {x.holds(2, 1, 0), x.holds(2, 1, 1), x.holds(2, 1, 2), x.holds(9, 0, 0), x.holds(9, 0, 1), x.holds(9, 0, 2)},
            0, 1, 1, 1, 1, 7);
        due("reply", new int[] {x.reply(2, 1, 0), x.reply(2, 1, 1), x.reply(2, 1, 2), x.reply(0, 9, 0), x.reply(0, 9, 1), x.reply(0, 9, 2),
            x.reply(1, 0, 2)}, 0, 0, 1, 1, 1, 7, 0);
        due("hold, none such", new int[] {x.hold(10, 0), x.hold(0, 10), x.hold(-1, 0), x.hold(0, -1)}, -1000, -1000, -1000, -1000);
        due("holds, none such", new int[] {x.holds(10, 0, 0), x.holds(0, 10, 0), x.holds(-1, 0, 0), x.holds(0, -1, 0), x.holds(1, 1, 3),
            x.holds(1, 1, -1)}, -2, -2, -2, -2, -2, -2);
        due("reply, none such", new int[] {x.reply(10, 0, 0), x.reply(0, 10, 0), x.reply(-1, 0, 0), x.reply(0, -1, 0), x.reply(1, 1, 3),
            x.reply(1, 1, -1)}, -2, -2, -2, -2, -2, -2);
    }

    /** Promises 43 to 47. */
    private static void peace() {
        WarByHours x = told(TEXT);
        due("readings", new int[] {x.readings(0), x.readings(2), x.readings(3), x.readings(5), x.readings(6), x.readings(7), x.readings(59),
            x.readings(60), x.readings(-1)}, 16, 8, 0, 4, 0, 8, 16, -2, -2);
        due("loopholes", x.loopholes(), 164);
        due("close", new int[] {x.close(0), x.close(2), x.close(3), x.close(5), x.close(7), x.close(8), x.close(60), x.close(-1)},
            -1, 1, 0, 1, 1, -1, -2, -2);
        due("closed", new int[] {x.closed(0), x.closed(2), x.closed(3), x.closed(5), x.closed(7), x.closed(60), x.closed(-1)},
            -1, 1, 0, 2, 8, -2, -2);
        due("signs", x.signs(), 0);
        WarByHours y = told(SMALL + "rule 0 to 30;rule 9 to 9;rule 31 to 31;rule 31 to 59;");
        due("a RULE of one MINUTE", new int[] {y.readings(9), y.readings(31), y.close(31), y.closed(31), y.signs()}, 0, 96, 1, 64, -1);
        due("both of its bounds", told(SMALL + "rule 31 to 31;").closed(31), 3);
        due("loopholes to the last", y.loopholes(), 1L | 1L << 30 | 1L << 31 | 1L << 59);
        WarByHours z = told(SMALL);
        due("no RULES", new int[] {z.readings(9), (int) z.loopholes(), z.close(9), z.closed(9), z.signs()}, 1, 0, -1, -1, 0);
        due("signs behind a RULE", told(SMALL + "rule 0 to 4;").signs(), 5);
        due("signs in the last MINUTE", told(SMALL + "rule 0 to 58;").signs(), 59);
    }

    /** Promises 48 and 49. */
    private static void treatiesOfAll() {
        WarByHours x = told(TEXT);
        due("treaties(0)", x.treaties(0), 1 << 7 | 1 << 8 | 1 << 9);
        // FRONT by TRAIN 0 late: 1 0 -1 -2 -2 -2 -2 -1 0 1; n 8: 2 more at the most
        due("treaties(1)", x.treaties(1), 1 << 1 | 1 << 2 | 1 << 7 | 1 << 8 | 1 << 9);
        due("treaties(8)", x.treaties(8), -2);
        due("treaties(-1)", x.treaties(-1), -2);
        due("price", new int[] {x.price(1, 0), x.price(2, 0), x.price(7, 0), x.price(8, 0), x.price(10, 0), x.price(1, 1), x.price(4, 1)},
            4, 5, 3, 2, 0, 3, 3);
        due("price, none such", new int[] {x.price(0, 0), x.price(11, 0), x.price(1, 8), x.price(1, -1)}, -2, -2, -2, -2);
        due("60 MINUTES", told("war minutes 60 late 0 peace 0 rain 0;").treaties(0), (1L << 60) - 1);
    }

    /** Promises 50 to 53. */
    private static void suspects() {
        WarByHours x = told(TEXT);
        due("spies", new int[] {x.spies(0), x.spies(1), x.spies(2), x.spies(3), x.spies(4), x.spies(5), x.spies(6), x.spies(8), x.spies(-1)},
            7, 5, 3, 1, 2, 0, 2, -2, -2);
        due("watch", new int[] {x.watch(0), x.watch(1), x.watch(2), x.watch(3), x.watch(5), x.watch(7), x.watch(8), x.watch(-1)},
            0, 1, 0, -1, -1, -1, -2, -2);
        due("leaves", new int[] {x.leaves(0), x.leaves(1), x.leaves(2), x.leaves(3), x.leaves(5), x.leaves(8), x.leaves(-1)},
            2, 1, 1, 1, 0, -2, -2);
        due("known", new int[] {x.known(0, 0), x.known(0, 1), x.known(1, 0), x.known(1, 1), x.known(6, 0), x.known(5, 0), x.known(5, 1),
            x.known(0, 2), x.known(0, -1), x.known(8, 0), x.known(-1, 0)}, 0, 7, 1, 3, 6, 0, 0, -2, -2, -2, -2);
    }

    /** Promises 54 to 57. */
    private static void cannonShared() {
        WarByHours x = told(TEXT);
        due("cannon", new int[] {x.grant(), x.granted(), x.halves(), x.halved()}, 8, 5, 5, 1);
        WarByHours y = told(SMALL + "cannon 0 at 59 for 20 worth 9;cannon 0 at 10 for 5 worth 9;cannon 1 at 15 for 44 worth 1;".replace("44", "20")
            + "cannon 1 at 40 for 19 worth 1;cannon 0 at 10 for 5 worth 9;cannon 1 at 78 for 1 worth 99;".replace("at 78", "at 58"));
        // ASKS by MINUTES: 1 or 4 (SIDE 0, 10 to 14), 2 (SIDE 1, 15 to 34), 3 (SIDE 1, 40 to 58) or 5 (SIDE 1, 58), 0 (SIDE 0, 59 on)
        due("asks end to end", new int[] {y.grant(), y.granted(), y.halves(), y.halved()}, 118, 39, 117, 35);
        due("no ASKS", new int[] {told(SMALL).grant(), told(SMALL).granted(), told(SMALL).halves(), told(SMALL).halved()}, 0, 0, 0, 0);
    }

    /** Promises 58 and 59. */
    private static void wednesdays() {
        WarByHours x = told(TEXT);
        due("dry", new int[] {(int) x.dry(2, 1, 0), (int) x.dry(2, 1, 1), (int) x.dry(1, 0, 0), (int) x.dry(1, 0, 1), (int) x.dry(1, 1, 0)},
            21, 50, 3, 10, 7);
        due("dry, none such", new int[] {(int) x.dry(0, 0, 0), (int) x.dry(10, 0, 0), (int) x.dry(2, 3, 0), (int) x.dry(2, -1, 0),
            (int) x.dry(2, 1, 2), (int) x.dry(2, 1, -1)}, -2, -2, -2, -2, -2, -2);
        due("insist", new int[] {x.insist(0), x.insist(50), x.insist(99), x.insist(100), x.insist(101), x.insist(-1)}, 1, 1, 4, 12, -2, -2);
        WarByHours y = told(SMALL);
        due("no rain", new int[] {(int) y.dry(9, 9, 0), (int) y.dry(9, 9, 1), (int) y.dry(9, 8, 0), (int) y.dry(9, 8, 1), y.insist(100)},
            1, 1, 0, 1, 1);
        WarByHours z = told("war minutes 1 late 0 peace 0 rain 100;");
        due("nothing but rain", new int[] {(int) z.dry(9, 0, 0), (int) z.dry(9, 9, 0), z.insist(0), z.insist(1), z.insist(100)}, 1, 0, 1, -1, -1);
        due("insist 60 times", told("war minutes 1 late 0 peace 0 rain 98;").insist(70), 60);
        due("not 61 times", told("war minutes 1 late 0 peace 0 rain 97;").insist(84), -1);
        due("just so little", new int[] {told("war minutes 1 late 0 peace 0 rain 51;").insist(49),
            told("war minutes 1 late 0 peace 0 rain 51;").insist(50)}, 1, 2);
        WarByHours v = told("war minutes 1 late 0 peace 0 rain 99;");
        due("99 to the ninth", v.dry(9, 0, 0), 913517247483640899L);
        due("of 100 to the ninth", v.dry(9, 0, 1), 1000000000000000000L);
    }

    /** Promises 60 to 62. */
    private static void changes() {
        WarByHours x = told(TEXT);
        due("undo: none", x.undo(), -5);
        due("tell", new int[] {x.tell(0, 0, 59), x.tell(0, 0, 0), x.tell(0, 1, 100), x.tell(0, 2, 999), x.needs(1, 999), x.needs(1, 999)},
            2, 59, 10, 3, 8, 999);
        due("as told", new int[] {x.train(0, 2), x.train(0, 3), x.train(0, 5), x.need(1), x.count(11)}, 0, 100, 999, 999, 6);
        due("FRONT by it", new int[] {x.front(1, 0), x.front(2, 0), x.worst(0)}, 1, 2, 2);
        due("undo", new int[] {x.undo(), x.need(1), x.undo(), x.need(1), x.undo(), x.train(0, 5), x.undo(), x.train(0, 3), x.undo(),
            x.train(0, 2), x.undo(), x.train(0, 2), x.undo()}, 5, 999, 4, 8, 3, 3, 2, 10, 1, 59, 0, 2, -5);
        due("FRONT as it was", new int[] {x.front(10, 0), x.worst(0)}, 5, 0);
        due("tell, none such", new int[] {x.tell(3, 0, 0), x.tell(-1, 0, 0), x.tell(0, 3, 0), x.tell(0, -1, 0), x.tell(0, 0, 60), x.tell(0, 0, -1),
            x.tell(0, 1, 101), x.tell(0, 1, -1), x.tell(0, 2, 1000), x.tell(0, 2, -1)}, -2, -2, -2, -2, -2, -2, -2, -2, -2, -2);
        due("needs, none such", new int[] {x.needs(2, 0), x.needs(-1, 0), x.needs(0, 1000), x.needs(0, -1), x.count(11)}, -2, -2, -2, -2, 0);
        for (int i = 0; i < 60; i++) {
            due("change " + i, i % 2 == 0 ? x.tell(2, 0, i / 2 + 1) : x.needs(0, i), i == 0 ? 1 : i == 1 ? 10 : i % 2 == 0 ? i / 2 : i - 2);
        }
        due("61st", new int[] {x.tell(2, 0, 0), x.needs(0, 0), x.tell(3, 0, 0), x.needs(2, 0), x.need(0), x.train(2, 2), x.count(11)},
            -5, -5, -2, -2, 59, 30, 60);
        due("undo makes room", new int[] {x.undo(), x.needs(0, 1), x.needs(0, 2)}, 59, 57, -5);
        Texts.war(x, TEXT);
        due("another WAR has none", new int[] {x.count(11), x.undo(), x.need(0)}, 0, -5, 10);
    }

    /** Promises 63 and 64. */
    private static void wars() {
        WarByHours x = told(TEXT);
        // first draws of the seeds: 0: 0; 1: 38 58 13 15; 3: 47 7 65 12; 5: 55 57 16 77; 7: 64 6 68 74; 8: 34 64 94 73; 2,000,000,000: 4
        due("drawn 0", new int[] {x.drawn(0, 0), x.drawn(1, 0), x.drawn(3, 0), x.drawn(5, 0), x.drawn(7, 0), x.drawn(8, 0),
            x.drawn(2000000000, 0)}, -1, 6, 5, 2, 1, 0, -1);
        due("drawn 1", new int[] {x.drawn(0, 1), x.drawn(1, 1), x.drawn(3, 1), x.drawn(5, 1), x.drawn(7, 1), x.drawn(8, 1)}, -1, 0, 0, 0, 1, 0);
        due("drawn 2", new int[] {x.drawn(0, 2), x.drawn(1, 2), x.drawn(3, 2), x.drawn(5, 2), x.drawn(7, 2), x.drawn(8, 2)}, 0, 5, 7, 4, 1, 5);
        due("drawn, none such", new int[] {x.drawn(-1, 0), x.drawn(2000000001, 0), x.drawn(0, 3), x.drawn(0, -1)}, -2, -2, -2, -2);
        due("luck", new int[] {x.luck(0, 12, 0), x.luck(0, 12, 1), x.luck(0, 1, 0), x.luck(7, 1, 1), x.luck(7, 5, 0), x.luck(7, 5, 1)},
            6, 2, 0, 1, 3, 2);
        due("luck, none such", new int[] {x.luck(-1, 1, 0), x.luck(2000000001, 1, 0), x.luck(0, 0, 0), x.luck(0, 21, 0), x.luck(0, 1, 2),
            x.luck(0, 1, -1)}, -2, -2, -2, -2, -2, -2);
        CHECK.that("luck beyond the last seed", x.luck(2000000000, 20, 0) >= 0);
    }

    /** Promise 65. */
    private static void counts() {
        WarByHours x = told(TEXT);
        x.needs(0, 1);
        x.row(2, 0, 0);
        x.feed(0, 0, 0, 0, 0);
        int[] due = {10, 4, 2, 30, 3, 1, 3, 2, 3, 15, 20, 1, 1};
        for (int what = 0; what < due.length; what++) {
            due("count(" + what + ")", x.count(what), due[what]);
        }
        due("count(13)", x.count(13), -1);
        due("count(-1)", x.count(-1), -1);
    }

    /** Promises 66 and 67. */
    private static void imagesOfAll() {
        WarByHours x = told(TEXT);
        x.needs(0, 1);
        due("image", new int[] {x.image(0), x.image(3), x.image(-1)}, 0, -2, -2);
        x.tell(0, 0, 9);
        due("image(2)", x.image(2), 0);
        due("back: none", new int[] {x.back(1), x.back(3), x.back(-1)}, -6, -2, -2);
        x.feed(0, 0, 0, 0, 0);
        x.end(0);
        x.war();
        due("image of no WAR", x.image(1), 0);
        x.row(0, 0, 5);
        x.feed(0, 0, 0, 0, 0);
        due("back(2)", new int[] {x.back(2), x.train(0, 2), x.count(11), x.undo(), x.train(0, 2), x.undo(), x.need(0)}, 0, 9, 2, 1, 2, 0, 10);
        due("back(0)", new int[] {x.back(0), x.need(0), x.train(0, 2), x.count(11), x.front(10, 0), x.worst(0)}, 0, 1, 2, 1, 5, 0);
        due("back(2) again", new int[] {x.back(2), x.train(0, 2), x.worst(0)}, 0, 9, x.worst(0));
        due("TAPE and SLOTS stay", new int[] {x.count(10), x.count(12)}, 20, 1);
        due("back(1)", x.back(1), 0);
        noWar(x);
    }

    /** Promises 68 to 70: what a row has. */
    private static void numbersInside() {
        WarByHours x = new WarByHours();
        long v = 0x1122334455667788L;
        long[] cut = {(byte) 0x88, 0x7788, 0x55667788, v};
        for (int width = 0; width < 4; width++) {
            x.row(width, width, 3);
            x.write(width, 1, v);
            due("number 0 of WIDTH " + width, Rows.number(x, width, 0), 0);
            due("number 1 of WIDTH " + width, Rows.number(x, width, 1), cut[width]);
            x.write(width, 1, -1);
            due("-1 of WIDTH " + width, Rows.number(x, width, 1), -1);
            x.row(width, width, 3);
            due("a new row is all 0", Rows.number(x, width, 1), 0);
        }
        x.row(0, 2, 5);
        for (int i = 0; i < 5; i++) {
            x.write(0, i, 10 + i);
        }
        x.paste(0, 0, 0, 1, 4);
        due("paste on its own, upwards", new int[] {(int) Rows.number(x, 0, 0), (int) Rows.number(x, 0, 1), (int) Rows.number(x, 0, 4)}, 10, 10, 13);
        x.paste(0, 1, 0, 0, 4);
        due("downwards", new int[] {(int) Rows.number(x, 0, 0), (int) Rows.number(x, 0, 3), (int) Rows.number(x, 0, 4)}, 10, 13, 13);
        x.row(1, 2, 3);
        x.paste(0, 2, 1, 1, 2);
        due("to another one", new int[] {(int) Rows.number(x, 1, 0), (int) Rows.number(x, 1, 1), (int) Rows.number(x, 1, 2)}, 0, 12, 13);
        due("beyond", x.paste(0, 3, 1, 0, 3), -7);
        due("nothing happens", new int[] {(int) Rows.number(x, 1, 0), (int) Rows.number(x, 1, 1), (int) Rows.number(x, 1, 2)}, 0, 12, 13);
        x.row(1, 2, -1);
        due("the SLOT stays", Rows.number(x, 1, 1), 12);
    }

    /** Promises 68 to 70. */
    private static void rowsOfNumbers() {
        WarByHours x = new WarByHours();
        due("row, none such", new int[] {x.row(4, 0, 0), x.row(-1, 0, 0), x.row(0, 4, 0), x.row(0, -1, 0), x.row(0, 0, 61), x.row(4, 0, -1),
            x.row(0, 4, -1)}, -2, -2, -2, -2, -2, -2, -2);
        due("row below 0", new int[] {x.row(0, 0, -1), x.count(12), x.row(0, 3, Integer.MIN_VALUE)}, -3, 0, -3);
        due("row", new int[] {x.row(0, 0, 60), x.row(1, 3, 5), x.row(2, 0, 3), x.count(12)}, 0, 0, 0, 3);
        due("write", new int[] {x.write(0, 0, 999), x.write(0, 59, -1), x.write(1, 4, Long.MAX_VALUE), x.write(0, 60, 1), x.write(0, -1, 1),
            x.write(1, 5, 1), x.write(3, 0, 1), x.write(4, 0, 1), x.write(-1, 0, 1)}, 0, 0, 0, -7, -7, -7, -6, -2, -2);
        due("the SLOT stays", new int[] {x.row(1, 3, -1), x.write(1, 4, 1), x.row(1, 0, 61), x.write(1, 4, 1)}, -3, 0, -2, 0);
        due("paste", new int[] {x.paste(0, 57, 2, 0, 3), x.paste(0, 0, 0, 1, 59), x.paste(2, 0, 0, 57, 3), x.paste(0, 60, 2, 3, 0)}, 0, 0, 0, 0);
        due("paste beyond", new int[] {x.paste(0, 58, 2, 0, 3), x.paste(0, 0, 2, 1, 3), x.paste(0, -1, 2, 0, 1), x.paste(0, 0, 2, -1, 1),
            x.paste(0, 0, 2, 0, -1), x.paste(0, Integer.MAX_VALUE, 2, 0, 1), x.paste(0, 1, 2, 0, Integer.MAX_VALUE)}, -7, -7, -7, -7, -7, -7, -7);
        due("paste, others", new int[] {x.paste(0, 0, 4, 0, 0), x.paste(-1, 0, 0, 0, 0), x.paste(0, 0, 3, 0, 0), x.paste(3, 0, 0, 0, 0),
            x.paste(3, 0, 4, 0, 0), x.paste(0, 0, 1, 0, 0), x.paste(0, -1, 1, 0, 0)}, -2, -2, -6, -6, -2, -8, -8);
        due("row in place of another", new int[] {x.row(1, 0, 0), x.paste(0, 0, 1, 0, 0), x.write(1, 0, 0), x.count(12)}, 0, 0, -7, 3);
    }
}
