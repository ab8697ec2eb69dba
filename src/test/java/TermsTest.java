/** Where the terms II to IX, and the answers made of them, turn: just so many, one more, one less. */
public final class TermsTest {
    private static final Check CHECK = new Check("TermsTest");
    private static final String SMALL = Texts.SMALL;

    public static void main(String[] args) {
        trains();
        teas();
        front();
        lates();
        winners();
        peaksAndSwings();
        worst();
        idle();
        enough();
        sent();
        risked();
        bribed();
        guarded();
        answered();
        places();
        readings();
        closed();
        treaties();
        spies();
        cannon();
        halves();
        dry();
        insist();
        draws();
        drawnWars();
        toldAnew();
        CHECK.finish();
    }

    private static void due(String call, long got, long want) {
        CHECK.due(call, got, want);
    }

    private static WarByHours told(String text) {
        return Texts.told(CHECK, text);
    }

    private static String head(int minutes, int late, int peace, int rain) {
        return "war minutes " + minutes + " late " + late + " peace " + peace + " rain " + rain + ";";
    }

    private static String train(int side, int men, int due, int odds, int by, int price) {
        return "train " + side + " men " + men + " due " + due + " odds " + odds + " by " + by + " price " + price + ";";
    }

    /** II: in the MINUTE due, or by MINUTES later; from that MINUTE on. */
    private static void trains() {
        WarByHours x = told(SMALL + train(0, 7, 3, 0, 2, 0) + train(1, 99, 59, 0, 30, 0));
        due("a MINUTE ahead", x.men(0, 2, 0), 0);
        due("in the MINUTE due", x.men(0, 3, 0), 7);
        due("late, a MINUTE ahead", x.men(0, 4, 1), 0);
        due("late, in its MINUTE", x.men(0, 5, 1), 7);
        due("there to the last", x.men(0, 99, 1), 7);
        due("another TRAIN's DELAYS", x.men(0, 3, 2), 7);
        due("comes in the MINUTE due", x.comes(3, 0), 1);
        due("comes once", x.comes(4, 0) + x.comes(2, 0), 0);
        due("comes late", x.comes(5, 1), 1);
        due("not when due then", x.comes(3, 1), 0);
        due("in the latest MINUTE of all", x.men(1, 89, 2), 99);
        due("and not ahead of it", x.men(1, 88, 2), 0);
        due("nine TRAINS of 99", told(SMALL + train(1, 99, 0, 0, 1, 0).repeat(9)).men(1, 0, 0), 891);
    }

    /** II: no TEA, both ends too; TEAS may lie on one another, and behind the last MINUTE. */
    private static void teas() {
        WarByHours x = told(head(10, 0, 0, 0) + train(0, 1, 0, 0, 1, 0) + "tea 2 to 4;tea 4 to 5;tea 9 to 59;tea 7 to 7;");
        int[] tea = {0, 0, 1, 1, 1, 1, 0, 1, 0, 1};
        int[] front = {0, 1, 2, 2, 2, 2, 2, 3, 3, 4, 4};
        for (int minute = 0; minute < 10; minute++) {
            due("tea(" + minute + ")", x.tea(minute), tea[minute]);
        }
        for (int n = 0; n <= 10; n++) {
            due("front(" + n + ", 0)", x.front(n, 0), front[n]);
        }
        due("worst(1)", x.worst(1), -4);
        due("nothing but TEA", told(head(60, 0, 0, 0) + train(0, 1, 0, 0, 1, 0) + "tea 0 to 59;").front(60, 0), 0);
    }

    /** II: one more, one less; as many: neither. */
    private static void front() {
        WarByHours x = told(SMALL + train(0, 5, 0, 0, 30, 0) + train(1, 5, 0, 0, 30, 0) + train(1, 1, 2, 0, 30, 0) + train(0, 2, 3, 0, 30, 0));
        int[] front = {0, 0, 0, -1, 0, 1};
        for (int n = 0; n <= 5; n++) {
            due("front(" + n + ", 0)", x.front(n, 0), front[n]);
        }
        due("the most", told(head(60, 0, 0, 0) + train(0, 1, 0, 0, 1, 0)).front(60, 0), 60);
        due("the least", told(head(60, 0, 0, 0) + train(1, 1, 0, 0, 1, 0)).front(60, 0), -60);
        due("even(0)", x.even(0), 3);
    }

    /** II: fewer men than its need, in the MINUTE late. */
    private static void lates() {
        WarByHours x = told(SMALL + "need 0 7;need 1 7;" + train(0, 7, 2, 0, 1, 0) + train(1, 7, 1, 0, 1, 0));
        due("just so many, in just that MINUTE", x.late(0), 0);
        due("a MINUTE too late", x.late(1), 1);
        due("late, and in just that MINUTE", x.late(2), 0);
        x.needs(0, 8);
        due("one more", x.late(0), 1);
        x.needs(1, 8);
        due("both", x.late(0), 3);
        x.needs(0, 6);
        due("one less", x.late(0), 2);
        x.needs(0, 0);
        due("no need", x.late(1), 2);
        due("the most need", told(SMALL + "need 1 999;" + train(1, 99, 0, 0, 1, 0).repeat(9)).late(0), 2);
        due("in the first MINUTE", told(head(1, 0, 0, 0) + "need 1 1;" + train(1, 1, 0, 0, 1, 0)).late(1), 2);
    }

    /** II: just the other one LATE; else, none or both, by the FRONT. */
    private static void winners() {
        WarByHours x = told(SMALL + train(0, 2, 0, 0, 30, 0) + train(1, 1, 0, 0, 30, 0));
        due("none LATE, FRONT above 0", x.wins(0), 0);
        due("none LATE, FRONT below 0", x.wins(1), 1);
        due("none LATE, FRONT 0", x.wins(3), -1);
        x.needs(0, 3);
        due("SIDE 0 LATE, FRONT above 0", x.wins(0), 1);
        x.needs(1, 2);
        due("both LATE, FRONT above 0", x.wins(0), 0);
        due("both LATE, FRONT below 0", x.wins(1), 1);
        due("both LATE, FRONT 0", x.wins(3), -1);
        x.needs(0, 0);
        due("SIDE 1 LATE, FRONT below 0", x.wins(1), 0);
        due("SIDE 1 LATE, FRONT 0", x.wins(3), 0);
        due("ways(0)", x.ways(0), 4);
        due("ways(1)", x.ways(1), 0);
        x.undo();
        x.undo();
        x.undo();
        // by TRAIN 0, 1: 0 1 0 -1
        due("ways(0)", x.ways(0), 2);
        due("ways(1)", x.ways(1), 1);
        due("chance(0, 1)", x.chance(0, 1), 1);
        WarByHours y = told(head(2, 0, 0, 0) + train(0, 1, 0, 0, 1, 0) + train(1, 2, 1, 0, 1, 0));
        due("FRONT one more, one less", y.wins(0), -1);
        due("one less alone", y.wins(1), 1);
        due("one more alone", y.wins(2), 0);
    }

    /** Promises 16 and 17: the first of several; 0 between aside. */
    private static void peaksAndSwings() {
        WarByHours x = told(SMALL);
        due("GOOD is 0 all the time", x.peak(0, 0), 0);
        due("GOOD is 0 all the time", x.peak(1, 0), 0);
        due("the FRONT stays", x.swings(0), 0);
        // FRONT 0 1 1 0 -1 -1: SIDE 0 to MINUTE 0, nobody in 1, SIDE 1 in 2 and 3, TEA in 4
        WarByHours y = told(SMALL + train(0, 1, 0, 0, 1, 0) + train(1, 1, 1, 0, 1, 0) + train(1, 1, 2, 0, 1, 0) + "tea 4 to 4;");
        due("the first n of two", y.peak(0, 0), 1);
        due("the first n of two", y.peak(1, 0), 4);
        due("0 between", y.swings(0), 1);
        // to 0 and back to the same SIDE: FRONT 0 1 0 1 2 3
        WarByHours z = told(SMALL + train(0, 1, 0, 0, 1, 0) + train(1, 2, 1, 0, 1, 0) + train(0, 2, 2, 0, 1, 0));
        due("to 0 and back", z.swings(0), 0);
        due("in the last MINUTE", z.peak(0, 0), 5);
        due("ahead of the first", z.peak(1, 0), 0);
        // one man more on the other SIDE each two MINUTES: FRONT 0 1 0 -1 0 1 0 -1 0
        StringBuilder text = new StringBuilder(head(8, 0, 0, 0)).append(train(0, 1, 0, 0, 1, 0));
        for (int i = 0; i < 4; i++) {
            text.append(train(1 - i % 2, 2, 1 + 2 * i, 0, 1, 0));
        }
        due("three times", told(text.toString()).swings(0), 3);
    }

    /** Promises 18 and 19: the fewest TRAINS, then the least set. */
    private static void worst() {
        WarByHours x = told(SMALL + train(1, 1, 0, 0, 1, 0) + train(0, 1, 1, 0, 30, 0) + train(0, 1, 1, 0, 30, 0));
        due("both TRAINS of SIDE 0", x.worst(0), -5);
        due("both", x.by(0), 6);
        WarByHours y = told(SMALL + train(1, 1, 0, 0, 1, 0) + train(0, 2, 0, 0, 30, 0) + train(0, 2, 0, 0, 30, 0) + train(1, 2, 0, 0, 1, 0));
        due("one of two", y.worst(0), -5);
        due("the least set", y.by(0), 2);
        WarByHours z = told(SMALL + train(1, 9, 0, 0, 1, 0));
        due("by none", z.by(0), 0);
        due("worst(1), a MINUTE of five", z.worst(1), 4);
        due("by the one", z.by(1), 1);
        due("the least of all", told(head(60, 0, 0, 0) + train(1, 1, 0, 0, 1, 0)).worst(0), -60);
    }

    private static void idle() {
        due("none", told(SMALL).idle(), 0);
        due("behind the last MINUTE", told(SMALL + train(0, 9, 5, 0, 1, 0)).idle(), 1);
        due("in the last MINUTE", told(SMALL + train(0, 9, 4, 0, 1, 0)).idle(), 0);
        due("late matters for no more than how much", told(SMALL + train(0, 9, 3, 0, 1, 0)).idle(), 1);
        due("each of two is enough, but not none",
            told(SMALL + train(0, 1, 4, 0, 1, 0) + train(0, 1, 4, 0, 1, 0) + train(1, 1, 50, 0, 1, 0)).idle(), 4);
    }

    /** III and IX: lowest terms, 0 / 1. */
    private static void enough() {
        for (int odds : new int[] {0, 1, 50, 99, 100}) {
            WarByHours x = told(SMALL + "need 0 1;" + train(0, 1, 2, odds, 1, 0) + train(1, 1, 2, 100 - odds, 1, 0));
            int[][] want = {{1, 1}, {99, 100}, {1, 2}, {1, 100}, {0, 1}};
            int[] due = want[odds == 0 ? 0 : odds == 1 ? 1 : odds == 50 ? 2 : odds == 99 ? 3 : 4];
            due("enough(0, 0), odds " + odds, x.enough(0, 0), due[0]);
            due("enough(0, 1), odds " + odds, x.enough(0, 1), due[1]);
            due("enough(1, 0), no need", x.enough(1, 0), 1);
            due("enough(1, 1), no need", x.enough(1, 1), 1);
        }
        WarByHours y = told(SMALL + "need 0 1;" + train(0, 1, 2, 50, 1, 0).repeat(9));
        due("511 of 512", y.enough(0, 0), 511);
        due("511 of 512", y.enough(0, 1), 512);
        due("never", told(SMALL + "need 0 10;" + train(0, 1, 2, 50, 1, 0).repeat(9)).enough(0, 1), 1);
        due("a SIDE that never WINS, above", told(SMALL).chance(1, 0), 0);
        due("a SIDE that never WINS, below", told(SMALL).chance(1, 1), 1);
        WarByHours z = told(SMALL + train(1, 1, 0, 100, 30, 0).repeat(9));
        due("late for sure: chance(1, 0)", z.chance(1, 0), 0);
        due("late for sure: chance(1, 1)", z.chance(1, 1), 1);
    }

    /** Promises 24 to 26. */
    private static void sent() {
        WarByHours x = told(SMALL + "need 0 5;" + train(0, 5, 1, 99, 1, 7) + train(0, 5, 1, 1, 2, 1) + train(0, 4, 0, 50, 1, 2) + train(0, 1, 0, 50, 2, 5));
        due("late, and just in time", x.send(0), 7);
        due("which: the least set of one price", x.sent(0), 1);
        due("the fewest", x.fewest(0), 1);
        x.tell(2, 2, 1);
        due("two for less", x.send(0), 6);
        due("which", x.sent(0), 12);
        due("the fewest is one still", x.fewest(0), 1);
        x.tell(1, 1, 0);
        due("never late: sure", x.send(0), 1);
        due("which", x.sent(0), 2);
        x.needs(0, 16);
        due("one more than all bring", x.send(0), -1);
        due("one more than all bring", x.sent(0), -1);
        due("one more than all bring", x.fewest(0), -1);
        x.needs(0, 15);
        due("all", x.send(0), 14);
        due("all", x.sent(0), 15);
        due("all", x.fewest(0), 4);
        x.needs(0, 0);
        due("nothing is needed", x.send(0), 0);
        due("nothing is needed", x.sent(0), 0);
        due("nothing is needed", x.fewest(0), 0);
        due("the other SIDE has none", told(SMALL + "need 1 1;" + train(0, 5, 0, 0, 1, 0)).send(1), -1);
    }

    /** Promises 27 and 28: n in a hundred at least. */
    private static void risked() {
        WarByHours x = told(SMALL + "need 0 1;" + train(0, 1, 2, 50, 1, 3) + train(0, 1, 2, 50, 1, 3) + train(0, 1, 2, 24, 1, 5));
        due("just 50", x.risk(0, 50), 3);
        due("the least set of one price", x.risked(0, 50), 1);
        due("51", x.risk(0, 51), 5);
        due("51", x.risked(0, 51), 4);
        due("just 76", x.risk(0, 76), 5);
        due("75 of two is less than 76, 77 is 88 of two", x.risk(0, 77), 8);
        due("the least of two such", x.risked(0, 77), 5);
        due("just 88", x.risk(0, 88), 8);
        due("89 is 94 of all", x.risk(0, 89), 11);
        due("89", x.risked(0, 89), 7);
        due("94", x.risk(0, 94), 11);
        due("95", x.risk(0, 95), -1);
        due("100", x.risked(0, 100), -1);
        due("0 is nothing", x.risk(0, 0), 0);
        due("0 is nothing", x.risked(0, 0), 0);
        due("99 to the ninth is above 91", told(SMALL + "need 0 9;" + train(0, 1, 2, 1, 1, 999).repeat(9)).risk(0, 91), 8991);
        due("not above 92", told(SMALL + "need 0 9;" + train(0, 1, 2, 1, 1, 999).repeat(9)).risk(0, 92), -1);
    }

    /** Promises 29 and 30. */
    private static void bribed() {
        WarByHours x = told(SMALL + "need 0 3;" + train(0, 2, 2, 0, 1, 4) + train(0, 1, 1, 0, 1, 0) + train(0, 1, 1, 0, 2, 4) + train(1, 1, 0, 0, 30, 0));
        due("just so few: the first", x.bribe(0), 4);
        due("the least set", x.bribed(0), 1);
        x.needs(0, 4);
        due("one is enough", x.bribed(0), 1);
        x.needs(0, 2);
        due("two", x.bribe(0), 8);
        due("two", x.bribed(0), 5);
        x.needs(0, 1);
        due("a TRAIN that is in time still", x.bribe(0), -1);
        due("none", x.bribed(0), -1);
        x.needs(0, 5);
        due("LATE already", x.bribe(0), 0);
        due("by none of them", x.bribed(0), 0);
        due("the other SIDE has no need", x.bribe(1), -1);
    }

    /** Promises 31 and 32: most, none counts as most of all; the first of several; if it is more than now. */
    private static void guarded() {
        String two = SMALL + "need 0 2;" + train(0, 1, 2, 0, 1, 5) + train(0, 1, 2, 0, 1, 5);
        due("the other one costs as much: no more than now", told(two).guard(0), -1);
        due("there is no GUARD", told(two).guarded(0), -2);
        WarByHours x = told(two);
        x.tell(1, 2, 4);
        due("one more than now", x.guard(0), 1);
        due("what it is then", x.guarded(0), 5);
        x.needs(0, 1);
        due("both of them: each makes it none, the first", x.guard(0), 0);
        due("by none it is LATE", x.guarded(0), -1);
        x.needs(0, 3);
        due("LATE already: no more than now", x.guard(0), -1);
        x.needs(0, 0);
        due("by none now: no more", x.guard(0), -1);
        due("no TRAINS", told(SMALL + "need 0 1;").guard(0), -1);
    }

    /** Promises 33 to 36, for just so much. */
    private static void answered() {
        WarByHours x = told(SMALL + train(0, 2, 0, 0, 30, 3) + train(1, 1, 0, 0, 30, 4));
        // FRONT by TRAIN 0, 1 late: 5 -5 5 0
        due("too dear", x.spoil(0, 2), 5);
        due("just so much", x.spoil(0, 3), -5);
        due("which", x.spoils(0, 3), 1);
        due("too dear", x.spoils(0, 2), 0);
        due("SIDE 1 is not helped", x.spoil(1, 4), -5);
        due("the least set", x.spoils(1, 4), 0);
        due("no answer for 3", x.answer(0, 3), -5);
        due("an answer for 4", x.answer(0, 4), 0);
        due("nothing to answer for 2", x.answer(0, 2), 5);
        due("SIDE 1, for 3", x.answer(1, 3), 5);
        due("SIDE 1, for 2", x.answer(1, 2), -5);
        due("rests(2): nobody can", x.rests(2), 1);
        due("rests(3): TRAIN 0 is late", x.rests(3), 1);
        due("rests(4): both are late", x.rests(4), 1);
        due("no TRAINS", told(SMALL).rests(0), 1);
        due("no TRAINS", told(SMALL).answer(1, 0), 0);
    }

    /** V: more, less; the least row. */
    private static void places() {
        WarByHours x = new WarByHours();
        int[][] least = {{0, 0, 0}, {1, 1, 7}, {3, 3, 3}};
        due("nine against nine", x.hold(9, 9), -1);
        for (int i = 0; i < 3; i++) {
            due("nobody", x.holds(0, 9, i), least[0][i]);
            due("the first reply to nobody", x.reply(0, 9, i), least[1][i]);
            due("the first way against nobody", x.holds(9, 0, i), least[1][i]);
        }
        due("three against two hold", x.hold(3, 2), 1);
        due("two against three", x.hold(2, 3), -1);
        due("nine against two: 3 each", x.hold(9, 2), 3);
        due("eight against two", x.hold(8, 2), 2);
        for (int i = 0; i < 3; i++) {
            due("nine against two, PLACE " + i, x.holds(9, 2, i), least[2][i]);
        }
    }

    /** VI: behind the first bound or, if that is meant too, in it; ahead of the second or, if that is, in it. */
    private static void readings() {
        WarByHours x = told(SMALL + "rule 10 to 12;");
        int[] want = {4, 2, 0, 2, 4};
        for (int minute = 9; minute <= 13; minute++) {
            due("readings(" + minute + ")", x.readings(minute), want[minute - 9]);
        }
        due("loopholes()", x.loopholes(), 5 << 10);
        due("signs()", x.signs(), 0);
        WarByHours y = told(SMALL + "rule 10 to 11;");
        due("nothing between", y.readings(10), 2);
        due("nothing between", y.readings(11), 2);
        WarByHours z = told(SMALL + "rule 10 to 10;");
        due("both bounds in one MINUTE", z.readings(10), 3);
        due("a MINUTE ahead", z.readings(9), 4);
        due("a MINUTE behind", z.readings(11), 4);
        due("a LOOPHOLE", z.loopholes(), 1 << 10);
        due("no RULE", told(SMALL).readings(0), 1);
        due("no RULE", told(SMALL).loopholes(), 0);
        due("signs() in MINUTE 59", told(SMALL + "rule 0 to 58;").signs(), 59);
        due("signs() in none", told(SMALL + "rule 0 to 59;").signs(), -1);
        due("signs() in 0", told(SMALL + "rule 1 to 59;").signs(), 0);
        due("signs() in 1", told(SMALL + "rule 0 to 0;").signs(), 1);
        due("a LOOPHOLE of one RULE is none of another", told(SMALL + "rule 10 to 12;rule 11 to 20;rule 0 to 11;").loopholes(), 1 | 1 << 20);
    }

    /** Promises 45 and 46. */
    private static void closed() {
        WarByHours x = told(SMALL + "rule 5 to 5;rule 5 to 9;rule 2 to 5;");
        due("one is enough: the fewest", x.close(5), 1);
        due("the least of so few", x.closed(5), 4);
        due("between: none is to be told", x.close(6), 0);
        due("between", x.closed(6), 0);
        due("at a second bound", x.closed(9), 8);
        due("at a first bound", x.closed(2), 16);
        due("beyond", x.close(10), -1);
        due("beyond", x.closed(1), -1);
        due("two, of one RULE", told(SMALL + "rule 9 to 9;rule 5 to 5;").closed(5), 12);
        due("no RULES", told(SMALL).close(5), -1);
    }

    /** VII: no less: just as much is no less. */
    private static void treaties() {
        String trains = train(0, 1, 0, 0, 30, 0) + train(1, 2, 2, 0, 30, 0);
        // FRONT behind 0 .. 5: 0 1 2 1 0 -1
        due("peace 0", told(head(5, 0, 0, 0) + trains).treaties(0), 1 << 4);
        due("peace 1", told(head(5, 0, 1, 0) + trains).treaties(0), 3 << 3);
        due("peace 2", told(head(5, 0, 2, 0) + trains).treaties(0), 29);
        due("peace 3", told(head(5, 0, 3, 0) + trains).treaties(0), 31);
        WarByHours x = told(head(5, 0, 60, 0) + trains);
        due("price(1, 0)", x.price(1, 0), 2);
        due("price(2, 0)", x.price(2, 0), 3);
        due("price(3, 0)", x.price(3, 0), 2);
        due("price(4, 0)", x.price(4, 0), 1);
        due("price(5, 0)", x.price(5, 0), 0);
        due("the dearest", told(head(60, 0, 0, 0) + train(1, 1, 0, 0, 1, 0)).price(1, 0), 59);
        due("the WAR goes on, the FRONT does not", told(head(5, 0, 0, 0)).treaties(0), 31);
    }

    /** VIII, promises 50 to 53. */
    private static void spies() {
        WarByHours x = told(SMALL + Texts.TRAIN.repeat(3) + "spy knows 0;spy knows 0 1;spy knows 1 2;spy knows 2;");
        due("none came early: all fit", x.spies(0), 15);
        due("just those that he knows", x.spies(3), 2);
        due("one more", x.spies(7), 0);
        due("two of four: the first of several", x.watch(0), 0);
        due("at worst", x.leaves(0), 2);
        due("one of two is left", x.watch(1), 1);
        due("at worst", x.leaves(1), 1);
        due("one alone: no fewer", x.watch(3), -1);
        due("as now", x.leaves(3), 1);
        due("all came early", x.watch(7), -1);
        due("none fits", x.leaves(7), 0);
        due("all of none", x.known(7, 0), 0);
        due("some of none", x.known(7, 1), 0);
        due("all of one", x.known(3, 0), 3);
        due("all of two", x.known(1, 0), 1);
        due("some of two", x.known(1, 1), 3);
        due("like ones: none is to be watched",
            told(SMALL + Texts.TRAIN.repeat(2) + "spy knows 0;spy knows 0;").watch(0), -1);
        due("as now", told(SMALL + Texts.TRAIN.repeat(2) + "spy knows 0;spy knows 0;").leaves(0), 2);
    }

    private static String ask(int side, int at, int minutes, int worth) {
        return "cannon " + side + " at " + at + " for " + minutes + " worth " + worth + ";";
    }

    /** VIII: none in a MINUTE of another one, from at on, for so many. */
    private static void cannon() {
        due("end to end", told(SMALL + ask(0, 5, 3, 1) + ask(0, 8, 1, 1)).granted(), 3);
        due("one MINUTE of both", told(SMALL + ask(0, 5, 4, 1) + ask(0, 8, 1, 1)).granted(), 1);
        due("in the same MINUTE", told(SMALL + ask(0, 5, 1, 1) + ask(1, 5, 1, 1)).granted(), 1);
        due("one inside the other", told(SMALL + ask(0, 5, 20, 2) + ask(1, 9, 1, 1) + ask(1, 24, 1, 1)).granted(), 1);
        due("behind it", told(SMALL + ask(0, 5, 20, 2) + ask(1, 9, 1, 1) + ask(1, 25, 1, 1)).granted(), 5);
        due("told the other way round", told(SMALL + ask(0, 8, 1, 1) + ask(0, 5, 3, 1)).granted(), 3);
        due("told the other way round, one of both", told(SMALL + ask(0, 8, 1, 1) + ask(0, 5, 4, 1)).granted(), 1);
        due("one is worth as much as two: the least set", told(SMALL + ask(0, 5, 2, 1) + ask(0, 7, 2, 1) + ask(0, 6, 2, 2)).granted(), 3);
        due("one is worth more", told(SMALL + ask(0, 5, 2, 1) + ask(0, 7, 2, 1) + ask(0, 6, 2, 3)).granted(), 4);
        due("beyond the last MINUTE", told(SMALL + ask(0, 59, 20, 9) + ask(1, 58, 1, 9)).grant(), 18);
        WarByHours x = told(SMALL + ask(0, 0, 1, 99) + ask(1, 1, 1, 99) + ask(0, 2, 1, 99) + ask(1, 3, 1, 99) + ask(0, 4, 1, 99)
            + ask(1, 5, 1, 99) + ask(0, 6, 1, 99) + ask(1, 7, 1, 99));
        due("all eight", x.grant(), 792);
        due("all eight", x.granted(), 255);
        due("all eight by HALVES", x.halves(), 792);
        due("all eight by HALVES", x.halved(), 255);
    }

    /** VIII: of any two one behind the other not both of one SIDE. */
    private static void halves() {
        due("both of one SIDE", told(SMALL + ask(0, 5, 1, 1) + ask(0, 50, 1, 1)).halved(), 1);
        due("the one that is worth more", told(SMALL + ask(0, 5, 1, 1) + ask(0, 50, 1, 2)).halved(), 2);
        due("one of each", told(SMALL + ask(0, 5, 1, 1) + ask(1, 50, 1, 1)).halved(), 3);
        due("one of the other SIDE between", told(SMALL + ask(0, 5, 1, 9) + ask(0, 50, 1, 9) + ask(1, 20, 1, 1)).halved(), 7);
        due("not between", told(SMALL + ask(0, 5, 1, 9) + ask(0, 50, 1, 9) + ask(1, 55, 1, 1)).halved(), 5);
        due("what it is worth", told(SMALL + ask(0, 5, 1, 9) + ask(0, 50, 1, 9) + ask(1, 55, 1, 1)).halves(), 10);
        due("one of both MINUTES is none between", told(SMALL + ask(0, 5, 1, 9) + ask(0, 50, 1, 9) + ask(1, 4, 2, 1)).halves(), 10);
    }

    private static void dry() {
        for (int rain : new int[] {0, 100}) {
            WarByHours x = told(head(1, 0, 0, rain));
            for (int k = 0; k <= 9; k++) {
                int sure = k == (rain == 0 ? 9 : 0) ? 1 : 0;
                due("dry(9, " + k + ", 0), rain " + rain, x.dry(9, k, 0), sure);
                due("dry(9, " + k + ", 1), rain " + rain, x.dry(9, k, 1), 1);
            }
        }
        WarByHours y = told(head(1, 0, 0, 50));
        int[] above = {1, 9, 9, 21, 63, 63, 21, 9, 9, 1};
        int[] below = {512, 512, 128, 128, 256, 256, 128, 128, 512, 512};
        for (int k = 0; k <= 9; k++) {
            due("dry(9, " + k + ", 0)", y.dry(9, k, 0), above[k]);
            due("dry(9, " + k + ", 1)", y.dry(9, k, 1), below[k]);
        }
        // 126 times 49 to the fourth times 51 to the fifth by 100 to the ninth
        WarByHours z = told(head(1, 0, 0, 51));
        due("large ones, above", z.dry(9, 4, 0), 63L * 5764801 * 345025251);
        due("large ones, below", z.dry(9, 4, 1), 500000000000000000L);
        WarByHours v = told(head(1, 0, 0, 1));
        due("99 to the ninth", v.dry(9, 9, 0), 913517247483640899L);
        due("of 100 to the ninth", v.dry(9, 9, 1), 1000000000000000000L);
        due("1 of 100 to the ninth", v.dry(9, 0, 0), 1);
    }

    /** Promise 59: cut each time; no more than. */
    private static void insist() {
        due("500,000 is no more than 500,000", told(head(1, 0, 0, 50)).insist(50), 1);
        due("but more than 490,000", told(head(1, 0, 0, 50)).insist(51), 2);
        due("250,000 is no more than 250,000", told(head(1, 0, 0, 50)).insist(75), 2);
        due("but more than 240,000", told(head(1, 0, 0, 50)).insist(76), 3);
        // 1,000,000 halved and cut: 500000 250000 125000 62500 31250 15625 7812 .. 1 (19 times), 0
        due("at last it is 0", told(head(1, 0, 0, 50)).insist(100), 20);
        due("once", told(head(1, 0, 0, 1)).insist(99), 1);
        due("10,000 100 1 0", told(head(1, 0, 0, 1)).insist(100), 4);
        due("0 at once", told(head(1, 0, 0, 0)).insist(100), 1);
        due("a million is no more than a million", told(head(1, 0, 0, 100)).insist(0), 1);
        due("but more than 990,000, each time", told(head(1, 0, 0, 100)).insist(1), -1);
        due("the 15th time 860,054 is more than 860,000", told(head(1, 0, 0, 99)).insist(14), 16);
        due("the 36th time 230,012 is more than 230,000", told(head(1, 0, 0, 96)).insist(77), 37);
    }

    /** IX: below rain it is not held, below odds a TRAIN is late; seed 1 draws 38 58 13 15. */
    private static void draws() {
        String trains = train(0, 1, 0, 58, 30, 0) + train(0, 1, 0, 13, 30, 0) + train(0, 1, 0, 15, 30, 0);
        due("38 is not below 38", told(head(5, 0, 0, 38) + trains).drawn(1, 0), 0);
        due("38 is below 39", told(head(5, 0, 0, 39) + trains).drawn(1, 0), -1);
        WarByHours x = told(head(5, 0, 0, 38) + trains);
        x.tell(0, 1, 59);
        due("58 is below 59", x.drawn(1, 0), 1);
        x.tell(1, 1, 14);
        due("13 is below 14", x.drawn(1, 0), 3);
        x.tell(2, 1, 16);
        due("15 is below 16", x.drawn(1, 0), 7);
        due("who WINS: nobody", x.drawn(1, 1), -1);
        due("FRONT", x.drawn(1, 2), 0);
        WarByHours y = told(head(5, 0, 0, 0) + train(1, 1, 0, 0, 1, 0).repeat(9));
        due("a draw 0 is not below 0", y.drawn(0, 0), 0);
        due("odds 0: none is late", y.drawn(2000000000, 0), 0);
        WarByHours z = told(head(5, 0, 0, 0) + train(1, 1, 0, 100, 1, 0).repeat(9));
        due("odds 100: all are late", z.drawn(0, 0), 511);
        due("odds 100: all are late", z.drawn(2000000000, 0), 511);
        WarByHours v = told(head(5, 0, 0, 100) + train(1, 1, 0, 100, 1, 0));
        for (int seed = 0; seed < 20; seed++) {
            due("rain 100: not held", v.drawn(seed, 0), -1);
        }
        due("rain 100: none is won", v.luck(0, 20, 1), 0);
    }

    private static void drawnWars() {
        WarByHours x = told(head(5, 0, 0, 0) + train(1, 1, 0, 100, 3, 0));
        due("who WINS", x.drawn(0, 1), 1);
        due("FRONT", x.drawn(0, 2), -2);
        due("luck", x.luck(0, 20, 1), 20);
        due("luck of the other SIDE", x.luck(0, 20, 0), 0);
        due("luck of one", x.luck(2000000000, 1, 1), 1);
        WarByHours y = told(Texts.WHOLE);
        // seed 7 is held, and SIDE 1 WINS; seed 8 is, and SIDE 0 does
        due("from the seed itself", y.luck(7, 1, 1), 1);
        due("not from the one ahead", y.luck(8, 1, 1), 0);
        due("one and the next", y.luck(7, 2, 0) + y.luck(7, 2, 1), 2);
    }

    /** What is asked of all DELAYS is of the WAR as it is now, whatever was asked ahead. */
    private static void toldAnew() {
        WarByHours x = told(SMALL + train(0, 1, 0, 50, 2, 0));
        ofAllDelays("as told", x, 3, 2, 0, 1);
        x.tell(0, 0, 2);
        ofAllDelays("due is 2", x, 1, 2, 0, 1);
        x.image(0);
        x.needs(0, 1);
        ofAllDelays("a need", x, 1, 1, 1, 0);
        x.tell(0, 1, 100);
        due("late for sure", x.chance(1, 0), 1);
        x.undo();
        due("or half the time", x.chance(1, 0), 1);
        due("or half the time", x.chance(1, 1), 2);
        x.undo();
        ofAllDelays("without it", x, 1, 2, 0, 1);
        x.undo();
        ofAllDelays("as told again", x, 3, 2, 0, 1);
        x.back(0);
        ofAllDelays("as the IMAGE has it", x, 1, 2, 0, 1);
        Texts.war(x, SMALL + train(1, 1, 0, 50, 1, 0));
        ofAllDelays("another WAR", x, -5, 0, 2, 1);
        x.back(0);
        ofAllDelays("as the IMAGE has it", x, 1, 2, 0, 1);
        Texts.war(x, "war");
        ofAllDelays("behind a FAULT", x, 1, 2, 0, 1);
    }

    private static void ofAllDelays(String of, WarByHours x, int worst, int ways, int others, int idle) {
        due(of + ": worst(0)", x.worst(0), worst);
        due(of + ": ways(0)", x.ways(0), ways);
        due(of + ": ways(1)", x.ways(1), others);
        due(of + ": idle()", x.idle(), idle);
        due(of + ": spoil(0, 0)", x.spoil(0, 0), worst);
        due(of + ": answer(0, 0)", x.answer(0, 0), worst + (others == 2 ? 1 : 0));
    }
}
