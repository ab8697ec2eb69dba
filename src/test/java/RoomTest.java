import java.lang.management.ManagementFactory;
import com.sun.management.ThreadMXBean;

/** All rows are made with the object: the calls make none, whatever they are asked. */
public final class RoomTest {
    private static final Check CHECK = new Check("RoomTest");
    private static final ThreadMXBean THREADS = (ThreadMXBean) ManagementFactory.getThreadMXBean();
    private static final int ROUNDS = 300;

    public static void main(String[] args) {
        StringBuilder text = new StringBuilder("war minutes 60 late 30 peace 9 rain 50;need 0 300;need 1 9;");
        for (int i = 0; i < 9; i++) {
            text.append("train ").append(i % 2).append(" men 9").append(i).append(" due ").append(5 * i)
                .append(" odds 50 by 7 price ").append(i).append(';');
        }
        text.append("tea 3 to 9;cannon 0 at 3 for 9 worth 5;cannon 1 at 9 for 3 worth 6;rule 3 to 9;rule 9 to 20;spy knows 0 3;spy knows 1;");
        int[][] numbers = new int[60][];
        for (int i = 0; i < numbers.length; i++) {
            numbers[i] = Texts.numbers(text.toString(), 20 * i);
        }
        WarByHours x = new WarByHours();
        long sum = all(x, numbers, text.length());
        CHECK.that("a WAR of nine TRAINS stands", x.count(4) == 9);
        long id = Thread.currentThread().getId();
        long before = THREADS.getThreadAllocatedBytes(id);
        for (int i = 0; i < ROUNDS; i++) {
            sum += all(x, numbers, text.length());
        }
        long made = THREADS.getThreadAllocatedBytes(id) - before;
        CHECK.that("the calls made " + made + " bytes in " + ROUNDS + " rounds (" + sum + ")", made < 10000);
        before = THREADS.getThreadAllocatedBytes(id);
        WarByHours y = new WarByHours();
        made = THREADS.getThreadAllocatedBytes(id) - before;
        CHECK.that("an object has " + made + " bytes (" + y.count(0) + ")", made < 60000);
        CHECK.finish();
    }

    private static long all(WarByHours x, int[][] numbers, int length) {
        x.end(0);
        for (int[] n : numbers) {
            x.feed(n[0], n[1], n[2], n[3], n[4]);
        }
        x.end(length);
        long sum = x.war() + x.fault(1) + x.train(1, 1) + x.need(1) + x.tea(1) + x.cannon(1, 1) + x.rule(1, 1) + x.spy(1) + x.men(1, 9, 9);
        sum += x.front(60, 5) + x.late(1) + x.wins(1) + x.peak(1, 1) + x.swings(1) + x.worst(0) + x.by(0) + x.ways(0) + x.idle();
        sum += x.enough(0, 0) + x.chance(0, 0) + x.send(0) + x.sent(0) + x.fewest(0) + x.risk(0, 50) + x.risked(0, 50) + x.bribe(0) + x.bribed(0);
        sum += x.guard(0) + x.guarded(0) + x.spoil(0, 9) + x.spoils(0, 9) + x.answer(0, 9) + x.rests(9) + x.since(0, 1) + x.comes(9, 9) + x.even(3);
        sum += x.hold(9, 9) + x.holds(9, 9, 1) + x.reply(9, 9, 1) + x.readings(9) + x.loopholes() + x.close(9) + x.closed(9) + x.signs();
        sum += x.treaties(3) + x.price(3, 3) + x.spies(1) + x.watch(1) + x.leaves(1) + x.known(1, 1) + x.grant() + x.granted() + x.halves() + x.halved();
        sum += x.dry(9, 4, 0) + x.insist(99) + x.tell(1, 1, 1) + x.needs(1, 1) + x.undo() + x.drawn(7, 2) + x.luck(7, 20, 1) + x.count(9);
        sum += x.image(1) + x.back(1) + x.row(1, 1, 60) + x.write(1, 1, 1) + x.paste(1, 0, 1, 1, 59);
        return sum;
    }
}
