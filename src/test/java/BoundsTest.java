import java.util.function.IntToLongFunction;
import java.util.function.ToLongFunction;

/** Each number that a call takes, promise by promise: the last that is taken and the first that is not, on both sides; and rooms that are full. */
public final class BoundsTest {
    private static final Check CHECK = new Check("BoundsTest");
    private static final int MOST_SEED = 2_000_000_000;

    public static void main(String[] args) {
        feed();
        end();
        war();
        fault();
        toldThings();
        menAndFront();
        latesAndWins();
        worstCases();
        chances();
        sending();
        bribing();
        spoiling();
        comings();
        placesHeld();
        peace();
        treaties();
        suspects();
        wednesdays();
        tell();
        needs();
        undo();
        draws();
        count();
        images();
        row();
        write();
        paste();
        nineTrains();
        CHECK.finish();
    }

    private static void due(String call, long got, long want) {
        CHECK.due(call, got, want);
    }

    /** A number of a call (# in its name) is taken from low to high: near and far beyond them the answer is the refusal. */
    private static void taken(String call, IntToLongFunction of, int low, long atLow, int high, long atHigh, long refusal) {
        at(call, of, low, atLow);
        at(call, of, high, atHigh);
        at(call, of, low - 1, refusal);
        at(call, of, high + 1, refusal);
        at(call, of, Integer.MIN_VALUE, refusal);
        at(call, of, Integer.MAX_VALUE, refusal);
    }

    private static void at(String call, IntToLongFunction of, int n, long want) {
        due(call.replace("#", Integer.toString(n)), of.applyAsLong(n), want);
    }

    private static WarByHours told(String text) {
        return Texts.told(CHECK, text);
    }

    private static WarByHours whole() {
        return told(Texts.WHOLE);
    }

    private static WarByHours full() {
        WarByHours x = new WarByHours();
        for (int n = 20; n <= 1200; n += 20) {
            due("feed()", x.feed(0x20202020, 0x20202020, 0x20202020, 0x20202020, 0x20202020), n);
        }
        return x;
    }

    /** Promise 2: NONE, and none come, if it would have more than 1,200. */
    private static void feed() {
        WarByHours x = full();
        due("feed() on a full TAPE", x.feed(1, 1, 1, 1, 1), -1);
        due("none come", x.count(10), 1200);
        due("none came: blanks alone", x.war(), 0);
        taken("feed() behind # bytes", n -> fedBehind(n), 0, 20, 1180, 1200, -1);
    }

    /** NONE too, if there can't be so many. */
    private static long fedBehind(int n) {
        WarByHours x = full();
        return x.end(n) == n ? x.feed(0, 0, 0, 0, 0) : -1;
    }

    /** Promise 3: NONE, and nothing happens, if it has not so many, or n is below 0. */
    private static void end() {
        taken("end(#) of an empty TAPE", n -> new WarByHours().end(n), 0, 0, 0, 0, -1);
        taken("end(#) of a full TAPE", n -> full().end(n), 0, 0, 1200, 1200, -1);
        WarByHours x = new WarByHours();
        Texts.put(x, Texts.SMALL);
        taken("end(#) of 36 bytes", n -> n == 0 ? 0 : x.end(n), 0, 0, 36, 36, -1);
        due("nothing happened", x.count(10), 36);
        due("no byte is another one", x.war(), 1);
        Texts.put(x, Texts.SMALL);
        due("end(35)", x.end(35), 35);
        due("end(36): it is gone", x.end(36), -1);
        due("its last byte is gone", x.war(), -4);
        due("at the end", x.fault(1), 35);
    }

    /** Promise 4: an empty TAPE, a full one; 0: there is none then. */
    private static void war() {
        WarByHours x = new WarByHours();
        due("war() of an empty TAPE", x.war(), 0);
        x = whole();
        x.needs(0, 1);
        due("war() of an empty TAPE", x.war(), 0);
        for (int what = 0; what <= 12; what++) {
            due("there is none then: count(" + what + ")", x.count(what), 0);
        }
        due("need(0)", x.need(0), -2);
        due("undo()", x.undo(), -2);
        due("war() of a full TAPE of blanks", full().war(), 0);
        String lines = Texts.SMALL + "need 1 7;".repeat(129) + "\n\n\n";
        due("bytes", lines.length(), 1200);
        due("war() of a full TAPE of LINES", Texts.war(x, lines), 130);
        due("count(9)", x.count(9), 130);
        due("need(1)", x.need(1), 7);
        due("the TAPE is empty then", x.count(10), 0);
        lines = Texts.SMALL + "need 1 7;".repeat(129) + "nee";
        due("war() of a full TAPE, the last word cut", Texts.war(x, lines), -4);
        due("its place", x.fault(1), 1197);
        due("the TAPE is empty then too", x.count(10), 0);
        lines = Texts.SMALL + "need 1 7;".repeat(129).replaceFirst(";$", "   ;");
        due("war() of a full TAPE, its last byte the sign", Texts.war(x, lines), 130);
        lines = Texts.SMALL + "need 1 7;".repeat(129).replaceFirst(";$", "    ");
        due("war() of a full TAPE without it", Texts.war(x, lines), -4);
        due("the end's place", x.fault(1), 1200);
        due("the other WAR stays", x.count(9), 130);
    }

    /** Promise 5: NONE for another what, and ahead of any (what 1); of the latest war(). */
    private static void fault() {
        WarByHours x = new WarByHours();
        taken("fault(#) ahead of any", x::fault, 0, 0, 1, -1, -1);
        Texts.war(x, "war minutes 61");
        taken("fault(#) of a FAULT", x::fault, 0, 2, 1, 12, -1);
        Texts.put(x, "need");
        due("a text that is not read: fault(0)", x.fault(0), 2);
        due("a text that is not read: fault(1)", x.fault(1), 12);
        x.war();
        taken("fault(#) of the latest", x::fault, 0, 1, 1, 0, -1);
        x.war();
        taken("fault(#) of an empty TAPE", x::fault, 0, 0, 1, -1, -1);
        Texts.war(x, Texts.SMALL);
        taken("fault(#) of a WAR", x::fault, 0, 0, 1, -1, -1);
    }

    /** Promises 6 to 11: -2: there are none such. */
    private static void toldThings() {
        WarByHours x = whole();
        taken("train(#, 0)", n -> x.train(n, 0), 0, 0, 2, 1, -2);
        taken("train(2, #)", n -> x.train(2, n), 0, 1, 5, 4, -2);
        taken("need(#)", x::need, 0, 10, 1, 8, -2);
        taken("tea(#)", x::tea, 0, 0, 9, 0, -2);
        taken("cannon(#, 1)", n -> x.cannon(n, 1), 0, 0, 2, 3, -2);
        taken("cannon(1, #)", n -> x.cannon(1, n), 0, 1, 3, 4, -2);
        taken("rule(#, 0)", n -> x.rule(n, 0), 0, 2, 1, 5, -2);
        taken("rule(1, #)", n -> x.rule(1, n), 0, 5, 1, 7, -2);
        taken("spy(#)", x::spy, 0, 3, 2, 1, -2);
        WarByHours y = told("war minutes 1 late 0 peace 0 rain 0;tea 0 to 59;");
        taken("tea(#) of one MINUTE", y::tea, 0, 1, 0, 1, -2);
        WarByHours z = told("war minutes 60 late 0 peace 0 rain 0;tea 59 to 59;");
        taken("tea(#) of 60 MINUTES", z::tea, 0, 0, 59, 1, -2);
        due("train(0, 0) without TRAINS", y.train(0, 0), -2);
        due("cannon(0, 0) without ASKS", y.cannon(0, 0), -2);
        due("rule(0, 0) without RULES", y.rule(0, 0), -2);
        due("spy(0) without SPIES", y.spy(0), -2);
        due("need(0) without need", y.need(0), 0);
    }

    /** Promises 12 and 13. */
    private static void menAndFront() {
        WarByHours x = whole();
        taken("men(#, 99, 0)", n -> x.men(n, 99, 0), 0, 12, 1, 9, -2);
        taken("men(0, #, 0)", n -> x.men(0, n, 0), 0, 6, 99, 12, -2);
        taken("men(0, 4, #)", n -> x.men(0, 4, n), 0, 12, 7, 6, -2);
        taken("front(#, 0)", n -> x.front(n, 0), 0, 0, 10, 5, -1000);
        taken("front(10, #)", n -> x.front(10, n), 0, 5, 7, 5, -1000);
        WarByHours y = told("war minutes 60 late 0 peace 0 rain 0;train 1 men 1 due 0 odds 0 by 30 price 0;");
        taken("front(#, 0) of 60 MINUTES", n -> y.front(n, 0), 0, 0, 60, -60, -1000);
        taken("front(60, #) of one TRAIN", n -> y.front(60, n), 0, -60, 1, -30, -1000);
        WarByHours z = told("war minutes 1 late 0 peace 0 rain 0;");
        taken("front(#, 0) of one MINUTE", n -> z.front(n, 0), 0, 0, 1, 0, -1000);
        taken("front(1, #) without TRAINS", n -> z.front(1, n), 0, 0, 0, 0, -1000);
        taken("men(0, 99, #) without TRAINS", n -> z.men(0, 99, n), 0, 0, 0, 0, -2);
    }

    /** Promises 14 to 17. */
    private static void latesAndWins() {
        WarByHours x = whole();
        taken("late(#)", x::late, 0, 0, 7, 3, -2);
        taken("wins(#)", x::wins, 0, 0, 7, 0, -2);
        taken("peak(#, 0)", n -> x.peak(n, 0), 0, 10, 1, 0, -2);
        taken("peak(0, #)", n -> x.peak(0, n), 0, 10, 7, 10, -2);
        taken("swings(#)", x::swings, 0, 0, 7, 0, -2);
        WarByHours z = told(Texts.SMALL);
        taken("late(#) without TRAINS", z::late, 0, 0, 0, 0, -2);
        taken("wins(#) without TRAINS", z::wins, 0, -1, 0, -1, -2);
        taken("peak(0, #) without TRAINS", n -> z.peak(0, n), 0, 0, 0, 0, -2);
        taken("swings(#) without TRAINS", z::swings, 0, 0, 0, 0, -2);
    }

    /** Promises 18 to 21. */
    private static void worstCases() {
        WarByHours x = whole();
        taken("worst(#)", x::worst, 0, 0, 1, -7, -1000);
        taken("by(#)", x::by, 0, 3, 1, 4, -2);
        taken("ways(#)", x::ways, 0, 6, 1, 2, -2);
        due("idle()", x.idle(), 2);
        due("idle() without WAR", new WarByHours().idle(), -2);
    }

    /** Promises 22 and 23. */
    private static void chances() {
        WarByHours x = whole();
        taken("enough(#, 0)", n -> x.enough(n, 0), 0, 9, 1, 1, -2);
        taken("enough(0, #)", n -> x.enough(0, n), 0, 9, 1, 10, -2);
        taken("chance(#, 0)", n -> x.chance(n, 0), 0, 19, 1, 1, -2);
        taken("chance(0, #)", n -> x.chance(0, n), 0, 19, 1, 20, -2);
    }

    /** Promises 24 to 28. */
    private static void sending() {
        WarByHours x = whole();
        taken("send(#), by none", x::send, 0, -1, 1, -1, -2);
        taken("sent(#), by none", x::sent, 0, -1, 1, -1, -2);
        taken("fewest(#), by none", x::fewest, 0, -1, 1, -1, -2);
        taken("risk(#, 50)", n -> x.risk(n, 50), 0, 5, 1, 4, -2);
        taken("risk(0, #)", n -> x.risk(0, n), 0, 0, 100, -1, -2);
        taken("risked(#, 50)", n -> x.risked(n, 50), 0, 3, 1, 4, -2);
        taken("risked(0, #)", n -> x.risked(0, n), 0, 0, 100, -1, -2);
        due("risk(0, 90)", x.risk(0, 90), 5);
        due("risk(0, 91)", x.risk(0, 91), -1);
        due("risked(0, 91)", x.risked(0, 91), -1);
        due("risk(0, 1)", x.risk(0, 1), 5);
        x.needs(0, 6);
        x.needs(1, 0);
        taken("send(#)", x::send, 0, 2, 1, 0, -2);
        taken("sent(#)", x::sent, 0, 2, 1, 0, -2);
        taken("fewest(#)", x::fewest, 0, 1, 1, 0, -2);
        taken("risk(0, #), surely", n -> x.risk(0, n), 0, 0, 100, 2, -2);
        taken("risked(0, #), surely", n -> x.risked(0, n), 0, 0, 100, 2, -2);
    }

    /** Promises 29 to 32. */
    private static void bribing() {
        WarByHours x = whole();
        taken("bribe(#)", x::bribe, 0, 3, 1, 4, -2);
        taken("bribed(#)", x::bribed, 0, 1, 1, 4, -2);
        taken("guard(#)", x::guard, 0, 0, 1, 2, -2);
        taken("guarded(#), by none then", x::guarded, 0, -1, 1, -1, -2);
        x.needs(0, 0);
        x.needs(1, 10);
        taken("bribe(#): by none; for nothing", x::bribe, 0, -1, 1, 0, -2);
        taken("bribed(#): by none; for nothing", x::bribed, 0, -1, 1, 0, -2);
        taken("guard(#): by none", x::guard, 0, -1, 1, -1, -2);
        taken("guarded(#): there is no GUARD", x::guarded, 0, -2, 1, -2, -2);
    }

    /** Promises 33 to 36. */
    private static void spoiling() {
        WarByHours x = whole();
        taken("spoil(#, 4)", n -> x.spoil(n, 4), 0, 1, 1, -7, -1000);
        taken("spoil(0, #)", n -> x.spoil(0, n), 0, 5, 999, 0, -1000);
        taken("spoils(#, 4)", n -> x.spoils(n, 4), 0, 1, 1, 4, -2);
        taken("spoils(0, #)", n -> x.spoils(0, n), 0, 0, 999, 3, -2);
        taken("answer(#, 4)", n -> x.answer(n, 4), 0, 5, 1, -5, -1000);
        taken("answer(0, #)", n -> x.answer(0, n), 0, 5, 999, 5, -1000);
        taken("rests(#)", x::rests, 0, 1, 999, 2, -2);
        due("a price is n: spoil(0, 3)", x.spoil(0, 3), 1);
        due("a price is above n: spoil(0, 2)", x.spoil(0, 2), 4);
        due("together they are n: spoil(0, 5)", x.spoil(0, 5), 0);
        due("together they are above n: spoil(0, 4)", x.spoil(0, 4), 1);
        due("the other's price is n: answer(0, 4)", x.answer(0, 4), 5);
        due("the other's price is above n: answer(0, 3)", x.answer(0, 3), 1);
        due("rests(3): SIDE 0 can't buy", x.rests(3), 1);
        WarByHours y = told(Texts.SMALL + "train 0 men 1 due 0 odds 0 by 9 price 999;train 0 men 1 due 0 odds 0 by 9 price 1;");
        due("1,000 together is beyond every n", y.spoil(0, 999), 5);
        y.tell(1, 2, 0);
        due("999 together", y.spoil(0, 999), 0);
        due("998 is too little", y.spoil(0, 998), 5);
        due("spoils(0, 999)", y.spoils(0, 999), 3);
        due("spoils(0, 998)", y.spoils(0, 998), 0);
    }

    /** Promises 37 to 39. */
    private static void comings() {
        WarByHours x = whole();
        taken("since(#, 0)", n -> x.since(n, 0), 0, 2, 1, 1, -2);
        taken("since(0, #)", n -> x.since(0, n), 0, 2, 7, 5, -2);
        taken("comes(#, 0)", n -> x.comes(n, 0), 0, 2, 99, 0, -2);
        taken("comes(2, #)", n -> x.comes(2, n), 0, 1, 7, 2, -2);
        taken("even(#)", x::even, 0, 0, 7, 3, -2);
        WarByHours y = told(Texts.SMALL + "need 0 1;train 0 men 1 due 59 odds 0 by 30 price 0;");
        due("the latest that a TRAIN comes: comes(89, 1)", y.comes(89, 1), 1);
        due("comes(88, 1)", y.comes(88, 1), 0);
        due("since(0, 1)", y.since(0, 1), 89);
        due("men(0, 88, 1)", y.men(0, 88, 1), 0);
        due("men(0, 89, 1)", y.men(0, 89, 1), 1);
        y.needs(0, 2);
        due("in none: since(0, 1)", y.since(0, 1), -1);
        y.needs(0, 0);
        due("no need: since(0, 1)", y.since(0, 1), 0);
        due("even(0), 5 MINUTES", y.even(0), 31);
        due("even(0), 60 MINUTES", told("war minutes 60 late 0 peace 0 rain 0;").even(0), (1L << 60) - 1);
        due("even(0), one MINUTE", told("war minutes 1 late 0 peace 0 rain 0;").even(0), 1);
    }

    /** Promises 40 to 42: without a WAR too. */
    private static void placesHeld() {
        for (WarByHours x : new WarByHours[] {new WarByHours(), whole()}) {
            taken("hold(#, 1)", n -> x.hold(n, 1), 0, -1, 9, 3, -1000);
            taken("hold(1, #)", n -> x.hold(1, n), 0, 1, 9, -3, -1000);
            taken("holds(#, 1, 2)", n -> x.holds(n, 1, 2), 0, 0, 9, 5, -2);
            taken("holds(1, #, 2)", n -> x.holds(1, n, 2), 0, 1, 9, 1, -2);
            taken("holds(9, 0, #)", n -> x.holds(9, 0, n), 0, 1, 2, 7, -2);
            taken("reply(#, 1, 2)", n -> x.reply(n, 1, 2), 0, 1, 9, 1, -2);
            taken("reply(1, #, 2)", n -> x.reply(1, n, 2), 0, 0, 9, 7, -2);
            taken("reply(0, 9, #)", n -> x.reply(0, 9, n), 0, 1, 2, 7, -2);
            due("nobody on any PLACE", x.hold(0, 0), 0);
            due("holds(0, 0, 2)", x.holds(0, 0, 2), 0);
            due("reply(0, 0, 2)", x.reply(0, 0, 2), 0);
        }
    }

    /** Promises 43 to 47: MINUTES 0 .. 59, however long the WAR is. */
    private static void peace() {
        for (String head : new String[] {"war minutes 1 late 0 peace 0 rain 0;", "war minutes 60 late 0 peace 0 rain 0;"}) {
            WarByHours x = told(head + "rule 0 to 59;");
            taken("readings(#)", x::readings, 0, 2, 59, 2, -2);
            taken("close(#)", x::close, 0, 1, 59, 1, -2);
            taken("closed(#)", x::closed, 0, 1, 59, 2, -2);
            due("readings(1)", x.readings(1), 0);
            due("readings(58)", x.readings(58), 0);
            due("close(58): by none already", x.close(58), 0);
            due("closed(58)", x.closed(58), 0);
            due("loopholes()", x.loopholes(), 1L | 1L << 59);
            due("signs(): none", x.signs(), -1);
        }
        WarByHours y = whole();
        taken("close(#): it can't be", y::close, 0, -1, 59, -1, -2);
        taken("closed(#): it can't be", y::closed, 0, -1, 59, -1, -2);
        due("loopholes() without WAR", new WarByHours().loopholes(), -2);
        due("signs() without WAR", new WarByHours().signs(), -2);
        WarByHours z = told(Texts.SMALL + "rule 0 to 59;rule 0 to 59;rule 0 to 59;rule 0 to 59;");
        due("four RULES, eight BOUNDS: readings(0)", z.readings(0), 16);
        due("close(59)", z.close(59), 1);
        due("the least of the BOUNDS: closed(59)", z.closed(59), 2);
        WarByHours v = told(Texts.SMALL + "rule 5 to 5;rule 9 to 9;rule 9 to 9;rule 59 to 59;");
        due("both BOUNDS of the fourth RULE: closed(59)", v.closed(59), 192);
        due("close(59)", v.close(59), 2);
        due("readings(59)", v.readings(59), 192);
        due("readings(58)", v.readings(58), 256);
    }

    /** Promises 48 and 49. */
    private static void treaties() {
        WarByHours x = whole();
        taken("treaties(#)", x::treaties, 0, 7 << 7, 7, 7 << 7, -2);
        taken("price(#, 0)", n -> x.price(n, 0), 1, 4, 10, 0, -2);
        taken("price(1, #)", n -> x.price(1, n), 0, 4, 7, 5, -2);
        WarByHours y = told("war minutes 60 late 0 peace 58 rain 0;train 0 men 1 due 0 odds 0 by 30 price 0;");
        due("bit 59: n 60; bit 0: n 1 is broken by one", y.treaties(0), (1L << 60) - 2);
        taken("price(#, 0) of 60 MINUTES", n -> y.price(n, 0), 1, 59, 60, 0, -2);
        WarByHours z = told("war minutes 60 late 0 peace 59 rain 0;train 0 men 1 due 0 odds 0 by 30 price 0;");
        due("peace is just enough", z.treaties(0), (1L << 60) - 1);
        WarByHours v = told("war minutes 1 late 0 peace 0 rain 0;");
        due("one MINUTE", v.treaties(0), 1);
        taken("price(#, 0) of one MINUTE", n -> v.price(n, 0), 1, 0, 1, 0, -2);
    }

    /** Promises 50 to 53. */
    private static void suspects() {
        WarByHours x = whole();
        taken("spies(#)", x::spies, 0, 7, 7, 0, -2);
        taken("watch(#)", x::watch, 0, 0, 7, -1, -2);
        taken("leaves(#)", x::leaves, 0, 2, 7, 0, -2);
        taken("known(#, 1)", n -> x.known(n, 1), 0, 7, 7, 0, -2);
        taken("known(#, 0)", n -> x.known(n, 0), 0, 0, 7, 0, -2);
        taken("known(0, #)", n -> x.known(0, n), 0, 0, 1, 7, -2);
        WarByHours y = told(Texts.SMALL + Texts.TRAIN);
        taken("spies(#) without SPIES", y::spies, 0, 0, 1, 0, -2);
        taken("watch(#) without SPIES", y::watch, 0, -1, 1, -1, -2);
        taken("leaves(#) without SPIES", y::leaves, 0, 0, 1, 0, -2);
        taken("known(#, 0) without SPIES", n -> y.known(n, 0), 0, 0, 1, 0, -2);
        WarByHours z = told(Texts.SMALL);
        taken("spies(#) without TRAINS", z::spies, 0, 0, 0, 0, -2);
        due("grant() without WAR", new WarByHours().grant(), -2);
        due("granted() without WAR", new WarByHours().granted(), -2);
        due("halves() without WAR", new WarByHours().halves(), -2);
        due("halved() without WAR", new WarByHours().halved(), -2);
        due("grant() without ASKS", z.grant(), 0);
        due("granted() without ASKS", z.granted(), 0);
        due("halves() without ASKS", z.halves(), 0);
        due("halved() without ASKS", z.halved(), 0);
    }

    /** Promises 58 and 59. */
    private static void wednesdays() {
        WarByHours x = whole();
        taken("dry(#, 1, 0)", n -> x.dry(n, 1, 0), 1, 7, 9, 413343, -2);
        taken("dry(9, #, 0)", n -> x.dry(9, n, 0), 0, 19683, 9, 40353607, -2);
        taken("dry(1, #, 0)", n -> x.dry(1, n, 0), 0, 3, 1, 7, -2);
        taken("dry(2, 1, #)", n -> x.dry(2, 1, n), 0, 21, 1, 50, -2);
        taken("insist(#)", x::insist, 0, 1, 100, 12, -2);
        WarByHours y = told("war minutes 1 late 0 peace 0 rain 0;");
        taken("insist(#) without rain", y::insist, 0, 1, 100, 1, -2);
        WarByHours z = told("war minutes 1 late 0 peace 0 rain 100;");
        taken("insist(#), rain alone", z::insist, 0, 1, 100, -1, -2);
        due("insist(1), rain alone", z.insist(1), -1);
        // a million times 0.99, cut each time, 60 times: 547,136
        WarByHours v = told("war minutes 1 late 0 peace 0 rain 99;");
        due("insist(1): 990,000 is no more than 990,000", v.insist(1), 1);
        due("insist(2): 980,100 is more than 980,000", v.insist(2), 3);
        due("insist(45): the 60th time", v.insist(45), 60);
        due("insist(46): by none", v.insist(46), -1);
    }

    /** Promise 60: -2: there are none such; -5 (behind that): there were 60 changes. */
    private static void tell() {
        taken("tell(#, 0, 5)", n -> whole().tell(n, 0, 5), 0, 2, 2, 1, -2);
        taken("tell(1, #, 5)", n -> whole().tell(1, n, 5), 0, 0, 2, 2, -2);
        taken("tell(0, 0, #)", n -> whole().tell(0, 0, n), 0, 2, 59, 2, -2);
        taken("tell(0, 1, #)", n -> whole().tell(0, 1, n), 0, 10, 100, 10, -2);
        taken("tell(0, 2, #)", n -> whole().tell(0, 2, n), 0, 3, 999, 3, -2);
        due("no TRAINS", told(Texts.SMALL).tell(0, 0, 0), -2);
        sixtieth("tell", x -> x.tell(1, 2, 7), 2);
        WarByHours x = changed(60);
        taken("tell(#, 0, 5), 60 changes", n -> x.tell(n, 0, 5), 0, -5, 2, -5, -2);
        taken("tell(1, #, 5), 60 changes", n -> x.tell(1, n, 5), 0, -5, 2, -5, -2);
        taken("tell(0, 0, #), 60 changes", n -> x.tell(0, 0, n), 0, -5, 59, -5, -2);
        taken("tell(0, 1, #), 60 changes", n -> x.tell(0, 1, n), 0, -5, 100, -5, -2);
        taken("tell(0, 2, #), 60 changes", n -> x.tell(0, 2, n), 0, -5, 999, -5, -2);
    }

    /** Promise 61. */
    private static void needs() {
        taken("needs(#, 5)", n -> whole().needs(n, 5), 0, 10, 1, 8, -2);
        taken("needs(0, #)", n -> whole().needs(0, n), 0, 10, 999, 10, -2);
        sixtieth("needs", x -> x.needs(1, 7), 8);
        WarByHours x = changed(60);
        taken("needs(#, 5), 60 changes", n -> x.needs(n, 5), 0, -5, 1, -5, -2);
        taken("needs(0, #), 60 changes", n -> x.needs(0, n), 0, -5, 999, -5, -2);
    }

    /** A WAR with so many changes, of TRAIN 0 and the need of SIDE 0 alone. */
    private static WarByHours changed(int changes) {
        WarByHours x = whole();
        for (int i = 0; i < changes; i++) {
            CHECK.that("change " + i, (i % 2 == 0 ? x.tell(0, i / 2 % 3, i) : x.needs(0, i)) >= 0);
        }
        due("count(11)", x.count(11), changes);
        return x;
    }

    private static void sixtieth(String name, ToLongFunction<WarByHours> change, long was) {
        WarByHours x = changed(59);
        due("the sixtieth, " + name, change.applyAsLong(x), was);
        due("count(11)", x.count(11), 60);
        due("one more, " + name, change.applyAsLong(x), -5);
        due("count(11)", x.count(11), 60);
        due("undo()", x.undo(), 59);
        due("the sixtieth again, " + name, change.applyAsLong(x), was);
        due("one more again, " + name, change.applyAsLong(x), -5);
    }

    /** Promise 62: -5: there is none; -2: there is no WAR. */
    private static void undo() {
        WarByHours x = changed(60);
        for (int left = 59; left >= 0; left--) {
            due("undo()", x.undo(), left);
        }
        due("none is left", x.undo(), -5);
        due("count(11)", x.count(11), 0);
        due("need(0) as told", x.need(0), 10);
        due("due as told", x.train(0, 2), 2);
        due("odds as told", x.train(0, 3), 10);
        due("price as told", x.train(0, 5), 3);
        due("a change behind that", x.needs(0, 3), 10);
        due("undo()", x.undo(), 0);
        due("none is left", x.undo(), -5);
        due("no WAR", new WarByHours().undo(), -2);
        x.needs(0, 3);
        x.war();
        due("no WAR any more", x.undo(), -2);
        Texts.war(x, Texts.SMALL);
        due("another WAR has no changes", x.undo(), -5);
        due("the same number is a change too", x.needs(0, 0), 0);
        due("count(11)", x.count(11), 1);
        due("undo()", x.undo(), 0);
    }

    /** Promises 63 and 64. */
    private static void draws() {
        WarByHours x = whole();
        taken("drawn(#, 0)", n -> x.drawn(n, 0), 0, -1, MOST_SEED, -1, -2);
        taken("drawn(#, 1)", n -> x.drawn(n, 1), 0, -1, MOST_SEED, -1, -2);
        taken("drawn(#, 2)", n -> x.drawn(n, 2), 0, 0, MOST_SEED, 0, -2);
        taken("drawn(1, #)", n -> x.drawn(1, n), 0, 6, 2, 5, -2);
        taken("luck(#, 1, 0)", n -> x.luck(n, 1, 0), 0, 0, MOST_SEED, 0, -2);
        taken("luck(0, #, 0)", n -> x.luck(0, n, 0), 1, 0, 20, heldAndWon(x, 0, 20, 0), -2);
        taken("luck(7, 1, #)", n -> x.luck(7, 1, n), 0, 0, 1, 1, -2);
        WarByHours y = told("war minutes 1 late 0 peace 0 rain 0;train 0 men 1 due 0 odds 0 by 1 price 0;");
        due("each of 20 is won", y.luck(MOST_SEED - 19, 20, 0), 20);
        due("seeds behind the last are drawn too", y.luck(MOST_SEED, 20, 0), 20);
        due("none of 20", y.luck(0, 20, 1), 0);
    }

    private static long heldAndWon(WarByHours x, int seed, int n, int side) {
        long won = 0;
        for (int i = 0; i < n; i++) {
            won += x.drawn(seed + i, 1) == side ? 1 : 0;
        }
        return won;
    }

    /** Promise 65: NONE for others. */
    private static void count() {
        taken("count(#), a new object", n -> new WarByHours().count(n), 0, 0, 12, 0, -1);
        WarByHours x = whole();
        taken("count(#)", x::count, 0, 10, 12, 0, -1);
        for (int slot = 0; slot < 4; slot++) {
            due("count(12)", x.count(12), slot);
            x.row(slot, 0, 0);
        }
        due("count(12), the most", x.count(12), 4);
        x.row(3, 1, 60);
        due("count(12), in place of another one", x.count(12), 4);
    }

    /** Promises 66 and 67: -2: no such k; -6: it has nothing. */
    private static void images() {
        WarByHours x = whole();
        taken("back(#): it has nothing", x::back, 0, -6, 2, -6, -2);
        taken("image(#)", x::image, 0, 0, 2, 0, -2);
        taken("back(#)", x::back, 0, 0, 2, 0, -2);
        WarByHours y = whole();
        y.image(1);
        due("IMAGE 0 has nothing still", y.back(0), -6);
        due("IMAGE 2 has nothing still", y.back(2), -6);
        due("IMAGE 1", y.back(1), 0);
        WarByHours z = new WarByHours();
        taken("image(#) of no WAR", z::image, 0, 0, 2, 0, -2);
        Texts.war(z, Texts.SMALL);
        due("back to no WAR", z.back(2), 0);
        due("no WAR", z.count(9), 0);
        due("need(0)", z.need(0), -2);
        WarByHours v = changed(60);
        v.image(0);
        due("undo()", v.undo(), 59);
        due("back(0)", v.back(0), 0);
        due("60 changes again", v.count(11), 60);
        due("one more", v.needs(0, 5), -5);
        due("the latest is the same", v.need(0), 59);
        due("undo()", v.undo(), 59);
        due("what it took back", v.need(0), 57);
        v.war();
        due("back(0) from no WAR", v.back(0), 0);
        due("60 changes again", v.count(11), 60);
    }

    /** Promise 68: -2: no such SLOT or WIDTH, n above 60; -3: n below 0. */
    private static void row() {
        WarByHours x = new WarByHours();
        taken("row(#, 0, 1)", n -> x.row(n, 0, 1), 0, 0, 3, 0, -2);
        taken("row(0, #, 1)", n -> x.row(0, n, 1), 0, 0, 3, 0, -2);
        at("row(0, 0, #)", n -> x.row(0, 0, n), 0, 0);
        at("row(0, 0, #)", n -> x.row(0, 0, n), 60, 0);
        at("row(0, 0, #)", n -> x.row(0, 0, n), 61, -2);
        at("row(0, 0, #)", n -> x.row(0, 0, n), Integer.MAX_VALUE, -2);
        at("row(0, 0, #)", n -> x.row(0, 0, n), -1, -3);
        at("row(0, 0, #)", n -> x.row(0, 0, n), Integer.MIN_VALUE, -3);
        taken("-2 ahead of -3: row(#, 0, -1)", n -> x.row(n, 0, -1), 0, -3, 3, -3, -2);
        taken("-2 ahead of -3: row(0, #, -1)", n -> x.row(0, n, -1), 0, -3, 3, -3, -2);
        WarByHours y = new WarByHours();
        y.row(1, 1, -1);
        due("-3: it has nothing still", y.write(1, 0, 0), -6);
        y.row(1, 1, 61);
        due("-2: it has nothing still", y.write(1, 0, 0), -6);
        due("count(12)", y.count(12), 0);
    }

    /** Promise 69: -2: no such SLOT; -6: it has nothing; -7: no such number. */
    private static void write() {
        WarByHours x = new WarByHours();
        taken("write(#, 0, 1), nothing", n -> x.write(n, 0, 1), 0, -6, 3, -6, -2);
        taken("write(#, -1, 1), nothing", n -> x.write(n, -1, 1), 0, -6, 3, -6, -2);
        for (int slot = 0; slot < 4; slot++) {
            int at = slot;
            x.row(slot, slot, 60);
            taken("write(" + slot + ", #, 1) of 60", n -> x.write(at, n, 1), 0, 0, 59, 0, -7);
            x.row(slot, slot, 1);
            taken("write(" + slot + ", #, 1) of one", n -> x.write(at, n, 1), 0, 0, 0, 0, -7);
            x.row(slot, slot, 0);
            at("write(" + slot + ", #, 1) of none", n -> x.write(at, n, 1), 0, -7);
            at("write(" + slot + ", #, 1) of none", n -> x.write(at, n, 1), -1, -7);
        }
        taken("write(#, 0, 1), no number", n -> x.write(n, 0, 1), 0, -7, 3, -7, -2);
    }

    /** Promise 70: -2, -6, -8, -7, one ahead of the other. */
    private static void paste() {
        WarByHours x = new WarByHours();
        taken("paste(#, 0, 0, 0, 0), nothing", n -> x.paste(n, 0, 0, 0, 0), 0, -6, 3, -6, -2);
        taken("paste(0, 0, #, 0, 0), nothing", n -> x.paste(0, 0, n, 0, 0), 0, -6, 3, -6, -2);
        x.row(0, 2, 60);
        due("the other one has nothing", x.paste(0, 0, 1, 0, 0), -6);
        due("the first one has nothing", x.paste(1, 0, 0, 0, 0), -6);
        due("-6 ahead of -7", x.paste(1, -1, 0, -1, -1), -6);
        due("-2 ahead of -6", x.paste(1, 0, 4, 0, 0), -2);
        x.row(1, 3, 5);
        due("not of one WIDTH", x.paste(0, 0, 1, 0, 1), -8);
        due("not of one WIDTH, none to put", x.paste(0, 0, 1, 0, 0), -8);
        due("-8 ahead of -7", x.paste(0, 61, 1, -1, -1), -8);
        x.row(1, 2, 5);
        taken("paste(#, 0, 1, 0, 5)", n -> n > 1 && n < 4 ? 0 : x.paste(n, 0, 1, 0, 5), 0, 0, 3, 0, -2);
        taken("paste(0, 0, #, 0, 5)", n -> n > 1 && n < 4 ? 0 : x.paste(0, 0, n, 0, 5), 0, 0, 3, 0, -2);
        taken("paste(0, #, 1, 0, 5)", n -> x.paste(0, n, 1, 0, 5), 0, 0, 55, 0, -7);
        taken("paste(0, 0, 1, #, 2)", n -> x.paste(0, 0, 1, n, 2), 0, 0, 3, 0, -7);
        taken("paste(1, #, 0, 0, 2)", n -> x.paste(1, n, 0, 0, 2), 0, 0, 3, 0, -7);
        taken("paste(0, 0, 1, 0, #)", n -> x.paste(0, 0, 1, 0, n), 0, 0, 5, 0, -7);
        taken("paste(1, 0, 0, 58, #)", n -> x.paste(1, 0, 0, 58, n), 0, 0, 2, 0, -7);
        taken("paste(0, 0, 0, 0, #), its own", n -> x.paste(0, 0, 0, 0, n), 0, 0, 60, 0, -7);
        taken("paste(0, #, 1, 0, 0), none to put", n -> x.paste(0, n, 1, 0, 0), 0, 0, 60, 0, -7);
        taken("paste(0, 0, 1, #, 0), none to put", n -> x.paste(0, 0, 1, n, 0), 0, 0, 5, 0, -7);
        due("sums that wrap around", x.paste(0, Integer.MAX_VALUE, 1, Integer.MAX_VALUE, Integer.MAX_VALUE), -7);
        x.row(2, 2, 0);
        taken("paste(0, 0, 2, 0, #), to a row of none", n -> x.paste(0, 0, 2, 0, n), 0, 0, 0, 0, -7);
        taken("paste(2, 0, 0, 0, #), from a row of none", n -> x.paste(2, 0, 0, 0, n), 0, 0, 0, 0, -7);
    }

    /** The most TRAINS: DELAYS are sets of nine. */
    private static void nineTrains() {
        StringBuilder text = new StringBuilder("war minutes 9 late 8 peace 60 rain 0;need 0 9;");
        for (int i = 0; i < 9; i++) {
            text.append("train 0 men 1 due ").append(i).append(" odds 50 by 30 price 999;");
        }
        WarByHours x = told(text + "spy knows 0 1 2 3 4 5 6 7 8;");
        taken("train(#, 2)", n -> x.train(n, 2), 0, 0, 8, 8, -2);
        taken("men(0, 8, #)", n -> x.men(0, 8, n), 0, 9, 511, 0, -2);
        taken("front(9, #)", n -> x.front(9, n), 0, 9, 511, 0, -1000);
        taken("late(#)", x::late, 0, 0, 511, 1, -2);
        taken("wins(#)", x::wins, 0, 0, 511, 1, -2);
        taken("peak(0, #)", n -> x.peak(0, n), 0, 9, 511, 0, -2);
        taken("swings(#)", x::swings, 0, 0, 511, 0, -2);
        taken("since(0, #)", n -> x.since(0, n), 0, 8, 511, 38, -2);
        taken("comes(8, #)", n -> x.comes(8, n), 0, 256, 511, 0, -2);
        taken("comes(38, #)", n -> x.comes(38, n), 0, 0, 511, 256, -2);
        taken("even(#)", x::even, 0, 0, 511, 511, -2);
        taken("treaties(#)", x::treaties, 0, 511, 511, 511, -2);
        taken("price(1, #)", n -> x.price(1, n), 0, 8, 511, 0, -2);
        taken("spies(#)", x::spies, 0, 1, 511, 1, -2);
        taken("watch(#)", x::watch, 0, -1, 511, -1, -2);
        taken("leaves(#)", x::leaves, 0, 1, 511, 1, -2);
        taken("known(#, 0)", n -> x.known(n, 0), 0, 511, 511, 511, -2);
        due("worst(0)", x.worst(0), 0);
        due("by(0)", x.by(0), 511);
        due("ways(0)", x.ways(0), 1);
        due("ways(1)", x.ways(1), 511);
        due("idle()", x.idle(), 0);
        due("enough(0, 1)", x.enough(0, 1), 512);
        due("chance(1, 0)", x.chance(1, 0), 511);
        due("send(0)", x.send(0), -1);
        due("risk(0, 1): one in 512 is less", x.risk(0, 1), -1);
        due("bribed(0)", x.bribed(0), 1);
        due("guard(0)", x.guard(0), -1);
        x.needs(0, 1);
        due("nine prices together: bribe(0)", x.bribe(0), 8991);
        due("bribed(0)", x.bribed(0), 511);
        due("guard(0)", x.guard(0), 0);
        due("guarded(0)", x.guarded(0), -1);
        due("tell(8, 0, 59)", x.tell(8, 0, 59), 8);
        due("tell(9, 0, 59)", x.tell(9, 0, 59), -2);
    }
}
