import java.util.ArrayList;
import java.util.List;
import java.util.function.Supplier;
import java.util.function.ToLongFunction;

/** A call that is refused leaves all as it was; those that the document lets change something leave the rest. */
public final class RefusalTest {
    private static final Check CHECK = new Check("RefusalTest");

    private record Refused(String call, long due, ToLongFunction<WarByHours> of) {
    }

    public static void main(String[] args) {
        for (Refused refused : refusals()) {
            stays("with all", RefusalTest::rich, refused);
        }
        for (Refused refused : withoutWar()) {
            stays("a new object", WarByHours::new, refused);
            stays("no WAR any more", RefusalTest::emptied, refused);
        }
        for (Refused refused : withSixtyChanges()) {
            stays("60 changes", RefusalTest::changedSixtyTimes, refused);
        }
        stays("a full TAPE", RefusalTest::fullTape, new Refused("feed", -1, x -> x.feed(1, 2, 3, 4, 5)));
        stays("a full TAPE", RefusalTest::fullTape, new Refused("end(1201)", -1, x -> x.end(1201)));
        stays("no changes", () -> told(Texts.WHOLE), new Refused("undo()", -5, WarByHours::undo));
        faultLeavesTheWar();
        backLeavesTapeAndSlots();
        numbersOfRows();
        CHECK.finish();
    }

    private static void stays(String of, Supplier<WarByHours> made, Refused refused) {
        WarByHours x = made.get();
        CHECK.due(of + ": " + refused.call, refused.of.applyAsLong(x), refused.due);
        CHECK.due(of + ": " + refused.call + " again", refused.of.applyAsLong(x), refused.due);
        String was = all(made.get());
        String is = all(x);
        CHECK.that(of + ": " + refused.call + " left " + is + ", due is " + was, is.equals(was));
    }

    // ---- what there is

    private static WarByHours told(String text) {
        return Texts.told(CHECK, text);
    }

    /** A WAR with changes, two IMAGES, two rows, and a text on the TAPE. */
    private static WarByHours rich() {
        WarByHours x = told(Texts.SMALL + Texts.TRAIN);
        x.tell(0, 2, 77);
        x.image(2);
        Texts.war(x, Texts.WHOLE);
        x.needs(0, 11);
        x.image(0);
        x.tell(2, 1, 51);
        x.row(0, 1, 3);
        x.write(0, 2, 300);
        x.row(3, 1, 2);
        x.write(3, 0, 9);
        x.row(1, 2, 0);
        Texts.put(x, Texts.SMALL + "need 1 9;");
        return x;
    }

    private static WarByHours emptied() {
        WarByHours x = rich();
        x.end(0);
        x.war();
        return x;
    }

    private static WarByHours changedSixtyTimes() {
        WarByHours x = told(Texts.WHOLE);
        for (int i = 0; i < 60; i++) {
            CHECK.that("change " + i, x.tell(1, 2, i) >= 0);
        }
        return x;
    }

    private static WarByHours fullTape() {
        WarByHours x = new WarByHours();
        Texts.put(x, Texts.SMALL + "need 1 7;".repeat(129) + "   ");
        CHECK.due("a full TAPE", x.count(10), 1200);
        return x;
    }

    // ---- what is refused

    private static List<Refused> refusals() {
        List<Refused> list = new ArrayList<>();
        list.add(new Refused("end(-1)", -1, x -> x.end(-1)));
        list.add(new Refused("end(46)", -1, x -> x.end(46)));
        list.add(new Refused("fault(2)", -1, x -> x.fault(2)));
        list.add(new Refused("count(13)", -1, x -> x.count(13)));
        askedOfNone(list);
        list.add(new Refused("tell(3, 0, 1)", -2, x -> x.tell(3, 0, 1)));
        list.add(new Refused("tell(-1, 0, 1)", -2, x -> x.tell(-1, 0, 1)));
        list.add(new Refused("tell(0, 3, 1)", -2, x -> x.tell(0, 3, 1)));
        list.add(new Refused("tell(0, -1, 1)", -2, x -> x.tell(0, -1, 1)));
        list.add(new Refused("tell(0, 0, 60)", -2, x -> x.tell(0, 0, 60)));
        list.add(new Refused("tell(0, 1, 101)", -2, x -> x.tell(0, 1, 101)));
        list.add(new Refused("tell(0, 2, 1000)", -2, x -> x.tell(0, 2, 1000)));
        list.add(new Refused("tell(0, 0, -1)", -2, x -> x.tell(0, 0, -1)));
        list.add(new Refused("needs(2, 1)", -2, x -> x.needs(2, 1)));
        list.add(new Refused("needs(-1, 1)", -2, x -> x.needs(-1, 1)));
        list.add(new Refused("needs(0, 1000)", -2, x -> x.needs(0, 1000)));
        list.add(new Refused("needs(0, -1)", -2, x -> x.needs(0, -1)));
        list.add(new Refused("image(3)", -2, x -> x.image(3)));
        list.add(new Refused("image(-1)", -2, x -> x.image(-1)));
        list.add(new Refused("back(3)", -2, x -> x.back(3)));
        list.add(new Refused("back(-1)", -2, x -> x.back(-1)));
        list.add(new Refused("back(1)", -6, x -> x.back(1)));
        rowsRefused(list);
        return list;
    }

    private static void askedOfNone(List<Refused> list) {
        list.add(new Refused("train(3, 0)", -2, x -> x.train(3, 0)));
        list.add(new Refused("need(2)", -2, x -> x.need(2)));
        list.add(new Refused("tea(10)", -2, x -> x.tea(10)));
        list.add(new Refused("cannon(3, 0)", -2, x -> x.cannon(3, 0)));
        list.add(new Refused("rule(2, 0)", -2, x -> x.rule(2, 0)));
        list.add(new Refused("spy(3)", -2, x -> x.spy(3)));
        list.add(new Refused("men(0, 100, 0)", -2, x -> x.men(0, 100, 0)));
        list.add(new Refused("front(11, 0)", -1000, x -> x.front(11, 0)));
        list.add(new Refused("late(8)", -2, x -> x.late(8)));
        list.add(new Refused("wins(8)", -2, x -> x.wins(8)));
        list.add(new Refused("peak(0, 8)", -2, x -> x.peak(0, 8)));
        list.add(new Refused("swings(8)", -2, x -> x.swings(8)));
        list.add(new Refused("worst(2)", -1000, x -> x.worst(2)));
        list.add(new Refused("by(2)", -2, x -> x.by(2)));
        list.add(new Refused("ways(2)", -2, x -> x.ways(2)));
        list.add(new Refused("enough(0, 2)", -2, x -> x.enough(0, 2)));
        list.add(new Refused("chance(0, 2)", -2, x -> x.chance(0, 2)));
        list.add(new Refused("send(2)", -2, x -> x.send(2)));
        list.add(new Refused("sent(2)", -2, x -> x.sent(2)));
        list.add(new Refused("fewest(2)", -2, x -> x.fewest(2)));
        list.add(new Refused("risk(0, 101)", -2, x -> x.risk(0, 101)));
        list.add(new Refused("risked(0, 101)", -2, x -> x.risked(0, 101)));
        list.add(new Refused("bribe(2)", -2, x -> x.bribe(2)));
        list.add(new Refused("bribed(2)", -2, x -> x.bribed(2)));
        list.add(new Refused("guard(2)", -2, x -> x.guard(2)));
        list.add(new Refused("guarded(2)", -2, x -> x.guarded(2)));
        list.add(new Refused("spoil(0, 1000)", -1000, x -> x.spoil(0, 1000)));
        list.add(new Refused("spoils(0, 1000)", -2, x -> x.spoils(0, 1000)));
        list.add(new Refused("answer(0, 1000)", -1000, x -> x.answer(0, 1000)));
        list.add(new Refused("rests(1000)", -2, x -> x.rests(1000)));
        list.add(new Refused("since(0, 8)", -2, x -> x.since(0, 8)));
        list.add(new Refused("comes(100, 0)", -2, x -> x.comes(100, 0)));
        list.add(new Refused("even(8)", -2, x -> x.even(8)));
        list.add(new Refused("hold(10, 0)", -1000, x -> x.hold(10, 0)));
        list.add(new Refused("holds(0, 0, 3)", -2, x -> x.holds(0, 0, 3)));
        list.add(new Refused("reply(0, 0, 3)", -2, x -> x.reply(0, 0, 3)));
        list.add(new Refused("readings(60)", -2, x -> x.readings(60)));
        list.add(new Refused("close(60)", -2, x -> x.close(60)));
        list.add(new Refused("closed(60)", -2, x -> x.closed(60)));
        list.add(new Refused("treaties(8)", -2, x -> x.treaties(8)));
        list.add(new Refused("price(11, 0)", -2, x -> x.price(11, 0)));
        list.add(new Refused("spies(8)", -2, x -> x.spies(8)));
        list.add(new Refused("watch(8)", -2, x -> x.watch(8)));
        list.add(new Refused("leaves(8)", -2, x -> x.leaves(8)));
        list.add(new Refused("known(0, 2)", -2, x -> x.known(0, 2)));
        list.add(new Refused("dry(10, 1, 0)", -2, x -> x.dry(10, 1, 0)));
        list.add(new Refused("insist(101)", -2, x -> x.insist(101)));
        list.add(new Refused("drawn(0, 3)", -2, x -> x.drawn(0, 3)));
        list.add(new Refused("luck(0, 21, 0)", -2, x -> x.luck(0, 21, 0)));
    }

    private static void rowsRefused(List<Refused> list) {
        list.add(new Refused("row(4, 0, 1)", -2, x -> x.row(4, 0, 1)));
        list.add(new Refused("row(0, 4, 1)", -2, x -> x.row(0, 4, 1)));
        list.add(new Refused("row(0, -1, 1)", -2, x -> x.row(0, -1, 1)));
        list.add(new Refused("row(0, 0, 61)", -2, x -> x.row(0, 0, 61)));
        list.add(new Refused("row(0, 0, -1)", -3, x -> x.row(0, 0, -1)));
        list.add(new Refused("row(2, 0, -1)", -3, x -> x.row(2, 0, -1)));
        list.add(new Refused("write(4, 0, 5)", -2, x -> x.write(4, 0, 5)));
        list.add(new Refused("write(2, 0, 5)", -6, x -> x.write(2, 0, 5)));
        list.add(new Refused("write(0, 3, 5)", -7, x -> x.write(0, 3, 5)));
        list.add(new Refused("write(0, -1, 5)", -7, x -> x.write(0, -1, 5)));
        list.add(new Refused("write(1, 0, 5)", -7, x -> x.write(1, 0, 5)));
        list.add(new Refused("paste(0, 0, 4, 0, 1)", -2, x -> x.paste(0, 0, 4, 0, 1)));
        list.add(new Refused("paste(0, 0, 2, 0, 1)", -6, x -> x.paste(0, 0, 2, 0, 1)));
        list.add(new Refused("paste(0, 0, 1, 0, 0)", -8, x -> x.paste(0, 0, 1, 0, 0)));
        list.add(new Refused("paste(0, 1, 3, 0, 3)", -7, x -> x.paste(0, 1, 3, 0, 3)));
        list.add(new Refused("paste(0, 0, 3, 0, 3)", -7, x -> x.paste(0, 0, 3, 0, 3)));
        list.add(new Refused("paste(0, 2, 3, 1, 2)", -7, x -> x.paste(0, 2, 3, 1, 2)));
        list.add(new Refused("paste(0, 1, 3, 1, 2)", -7, x -> x.paste(0, 1, 3, 1, 2)));
        list.add(new Refused("paste(0, -1, 3, 0, 2)", -7, x -> x.paste(0, -1, 3, 0, 2)));
        list.add(new Refused("paste(0, 1, 3, -1, 2)", -7, x -> x.paste(0, 1, 3, -1, 2)));
        list.add(new Refused("paste(0, 1, 3, 0, -1)", -7, x -> x.paste(0, 1, 3, 0, -1)));
    }

    private static List<Refused> withoutWar() {
        List<Refused> list = new ArrayList<>();
        list.add(new Refused("need(0)", -2, x -> x.need(0)));
        list.add(new Refused("idle()", -2, WarByHours::idle));
        list.add(new Refused("loopholes()", -2, WarByHours::loopholes));
        list.add(new Refused("signs()", -2, WarByHours::signs));
        list.add(new Refused("grant()", -2, WarByHours::grant));
        list.add(new Refused("granted()", -2, WarByHours::granted));
        list.add(new Refused("halves()", -2, WarByHours::halves));
        list.add(new Refused("halved()", -2, WarByHours::halved));
        list.add(new Refused("tell(0, 0, 0)", -2, x -> x.tell(0, 0, 0)));
        list.add(new Refused("needs(0, 5)", -2, x -> x.needs(0, 5)));
        list.add(new Refused("undo()", -2, WarByHours::undo));
        list.add(new Refused("back(1)", -6, x -> x.back(1)));
        list.add(new Refused("write(2, 0, 1)", -6, x -> x.write(2, 0, 1)));
        list.add(new Refused("drawn(0, 2)", -2, x -> x.drawn(0, 2)));
        list.add(new Refused("luck(0, 1, 0)", -2, x -> x.luck(0, 1, 0)));
        return list;
    }

    private static List<Refused> withSixtyChanges() {
        List<Refused> list = new ArrayList<>();
        list.add(new Refused("tell(0, 0, 5)", -5, x -> x.tell(0, 0, 5)));
        list.add(new Refused("tell(1, 2, 5)", -5, x -> x.tell(1, 2, 5)));
        list.add(new Refused("needs(0, 5)", -5, x -> x.needs(0, 5)));
        list.add(new Refused("needs(2, 5)", -2, x -> x.needs(2, 5)));
        list.add(new Refused("tell(3, 0, 5)", -2, x -> x.tell(3, 0, 5)));
        return list;
    }

    // ---- all that can be seen of an object

    /** What is told now; behind all changes taken back; of each IMAGE; of the text on the TAPE; and the rows. */
    private static String all(WarByHours x) {
        StringBuilder out = new StringBuilder();
        out.append(Rows.all(x)).append(" fault ").append(x.fault(0)).append(' ').append(x.fault(1)).append(" tape ").append(x.count(10));
        out.append(" now").append(war(x));
        for (int changes = x.count(11); changes > 0; changes--) {
            out.append(" undo ").append(x.undo()).append(' ').append(x.train(1, 5));
        }
        out.append(" then").append(war(x));
        for (int k = 0; k < 3; k++) {
            out.append(" back ").append(x.back(k)).append(war(x));
        }
        out.append(" war ").append(x.war()).append(' ').append(x.fault(0)).append(' ').append(x.fault(1)).append(war(x));
        return out.toString();
    }

    private static String war(WarByHours x) {
        StringBuilder out = new StringBuilder();
        for (int what = 0; what <= 12; what++) {
            out.append(what == 10 ? "" : " " + x.count(what));
        }
        out.append(" need ").append(x.need(0)).append(' ').append(x.need(1));
        for (int train = 0; train < x.count(4); train++) {
            for (int what = 0; what < 6; what++) {
                out.append(' ').append(x.train(train, what));
            }
        }
        out.append(" tea ").append(x.tea(0)).append(x.tea(4)).append(" asks ").append(x.granted()).append(" rules ").append(x.loopholes());
        out.append(" spies ").append(x.spy(0)).append(' ').append(x.spy(1)).append(" worst ").append(x.worst(0)).append(" wins ").append(x.wins(0));
        return out.toString();
    }

    // ---- what stays beside what changes

    /** Promise 4: behind a FAULT the WAR, its changes, the IMAGES and the rows stay; the TAPE is empty. */
    private static void faultLeavesTheWar() {
        for (String text : new String[] {"x", "war minutes 0", Texts.SMALL + Texts.TRAIN.repeat(10), Texts.WHOLE + "need 0 1000;"}) {
            WarByHours x = rich();
            Texts.put(x, text);
            CHECK.due("war() of [" + text + "]", x.war(), -4);
            CHECK.due("the TAPE is empty", x.count(10), 0);
            String is = all(x);
            WarByHours y = rich();
            y.end(0);
            String was = all(y);
            CHECK.that("[" + text + "] left " + is + ", due is " + was, withoutFault(is).equals(withoutFault(was)));
            WarByHours z = new WarByHours();
            Texts.put(z, text);
            CHECK.due("war() of [" + text + "], a new object", z.war(), -4);
            CHECK.due("no WAR still", z.count(9), 0);
            CHECK.due("no WAR still: need(0)", z.need(0), -2);
        }
    }

    private static String withoutFault(String all) {
        return all.replaceFirst("fault -?\\d+ -?\\d+", "");
    }

    /** Promise 67: back() is of the WAR and its changes alone. */
    private static void backLeavesTapeAndSlots() {
        WarByHours x = rich();
        String was = Rows.all(x);
        CHECK.due("back(2)", x.back(2), 0);
        CHECK.due("TRAINS", x.count(4), 1);
        CHECK.due("price", x.train(0, 5), 77);
        CHECK.due("changes", x.count(11), 1);
        CHECK.due("bytes of the TAPE", x.count(10), 45);
        CHECK.that("rows stay", Rows.all(x).equals(was));
        CHECK.due("undo()", x.undo(), 0);
        CHECK.due("back(2) again: what was changed since is gone", x.back(2), 0);
        CHECK.due("changes", x.count(11), 1);
        CHECK.due("the text of the TAPE", x.war(), 2);
        CHECK.due("need(1)", x.need(1), 9);
        CHECK.due("back(0)", x.back(0), 0);
        CHECK.due("need(0)", x.need(0), 11);
        CHECK.due("odds, not changed then", x.train(2, 3), 50);
        CHECK.due("image(0)", x.image(0), 0);
        CHECK.that("rows stay", Rows.all(x).equals(was));
    }

    /** Promises 68 to 70: numbers are cut to their WIDTH, and put as they were. */
    private static void numbersOfRows() {
        long[] most = {Byte.MAX_VALUE, Short.MAX_VALUE, Integer.MAX_VALUE, Long.MAX_VALUE};
        for (int width = 0; width < 4; width++) {
            WarByHours x = new WarByHours();
            x.row(width, width, 60);
            long least = -most[width] - 1;
            written(x, width, most[width], most[width]);
            written(x, width, least, least);
            written(x, width, -1, -1);
            written(x, width, most[width] + 1, least);
            written(x, width, least - 1, most[width]);
            written(x, width, 2 * most[width] + 1, -1);
            written(x, width, 2 * most[width] + 2, 0);
            for (int i = 0; i < 60; i++) {
                x.write(width, i, 5);
            }
            x.row(width, 3 - width, 60);
            for (int i = 0; i < 60; i++) {
                CHECK.due("a row in place of another one is all 0", Rows.number(x, width, i), 0);
            }
        }
        WarByHours x = new WarByHours();
        x.row(0, 0, 60);
        x.row(1, 0, 60);
        for (int i = 0; i < 60; i++) {
            x.write(0, i, i + 1);
        }
        x.paste(0, 0, 1, 0, 60);
        CHECK.due("60 numbers, the first", Rows.number(x, 1, 0), 1);
        CHECK.due("60 numbers, the last", Rows.number(x, 1, 59), 60);
        x.paste(0, 0, 0, 1, 59);
        CHECK.due("its own, upwards, the first", Rows.number(x, 0, 1), 1);
        CHECK.due("its own, upwards, the last", Rows.number(x, 0, 59), 59);
        x.paste(1, 1, 1, 0, 59);
        CHECK.due("its own, downwards, the first", Rows.number(x, 1, 0), 2);
        CHECK.due("its own, downwards, the last", Rows.number(x, 1, 58), 60);
        CHECK.due("its own, downwards, behind it", Rows.number(x, 1, 59), 60);
        x.row(2, 0, 2);
        x.paste(0, 59, 2, 1, 1);
        CHECK.due("one number", Rows.number(x, 2, 1), 59);
        CHECK.due("not the other one", Rows.number(x, 2, 0), 0);
    }

    private static void written(WarByHours x, int width, long v, long want) {
        for (int i : new int[] {0, 59}) {
            CHECK.due("write(" + width + ", " + i + ", " + v + ")", x.write(width, i, v), 0);
            CHECK.due(v + " cut to WIDTH " + width, Rows.number(x, width, i), want);
        }
    }
}
