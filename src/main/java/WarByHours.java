import java.util.Arrays;

/** War by appointment: a war told as a text, and what may be asked of it. */
public final class WarByHours {
    public static final int NONE = -1;

    private static final int NONE_SUCH = -2;
    private static final int BELOW_ZERO = -3;
    private static final int FAULTY = -4;
    private static final int NO_CHANGE = -5;
    private static final int NOTHING = -6;
    private static final int BEYOND = -7;
    private static final int OTHER_WIDTH = -8;
    private static final int NO_FRONT = -1000;

    private static final int MOST_BYTES = 1200;
    private static final int MOST_MINUTES = 60;
    private static final int MOST_TRAINS = 9;
    private static final int MOST_SETS = 512;
    private static final int MOST_ASKS = 8;
    private static final int MOST_PRICE = 999;
    private static final int MOST_SEED = 2000000000;
    private static final int LAST_MINUTE = 99;
    private static final int LAST_PEACE_MINUTE = 59;
    private static final int IMAGES = 3;

    private final War told = new War();
    private final War draft = new War();
    private final Reader reader = new Reader(draft);
    private final Course course = new Course(told);
    private final Fares fares = new Fares(told, course);
    private final Places places = new Places();
    private final Peace pacts = new Peace(told);
    private final Suspects suspects = new Suspects(told);
    private final Cannon turns = new Cannon(told);
    private final Slots slots = new Slots();
    private final War[] images = new War[IMAGES];

    public WarByHours() {
    }

    public int feed(int a, int b, int c, int d, int e) {
        if (!reader.hasRoom(20)) {
            return NONE;
        }
        reader.take(a);
        reader.take(b);
        reader.take(c);
        reader.take(d);
        reader.take(e);
        return reader.length;
    }

    public int end(int n) {
        return reader.cut(n) ? n : NONE;
    }

    public int war() {
        reader.read();
        reader.cut(0);
        if (reader.fault != 0) {
            return FAULTY;
        }
        told.become(draft);
        course.forget();
        return told.lines;
    }

    public int fault(int what) {
        switch (what) {
            case 0:
                return reader.fault;
            case 1:
                return reader.place;
            default:
                return NONE;
        }
    }

    public int train(int train, int what) {
        return told.trains.cell(train, what);
    }

    public int need(int side) {
        return told.hasSide(side) ? told.needOf(side) : NONE_SUCH;
    }

    public int tea(int minute) {
        if (!told.isTold() || minute < 0 || minute >= told.minutes) {
            return NONE_SUCH;
        }
        return told.isTea(minute) ? 1 : 0;
    }

    public int cannon(int ask, int what) {
        return told.asks.cell(ask, what);
    }

    public int rule(int rule, int what) {
        return told.rules.cell(rule, what);
    }

    public int spy(int spy) {
        return told.spies.cell(spy, 0);
    }

    public int men(int side, int minute, int delays) {
        if (!told.hasSide(side) || !isMinute(minute) || !told.hasSet(delays)) {
            return NONE_SUCH;
        }
        return told.menThere(side, minute, delays);
    }

    public int front(int n, int delays) {
        if (!told.hasSet(delays) || n < 0 || n > told.minutes) {
            return NO_FRONT;
        }
        course.follow(delays);
        return course.frontBehind(n);
    }

    public int late(int delays) {
        return told.hasSet(delays) ? told.lateSides(delays) : NONE_SUCH;
    }

    public int wins(int delays) {
        return told.hasSet(delays) ? course.winnerBy(delays) : NONE_SUCH;
    }

    public int peak(int side, int delays) {
        if (!told.hasSide(side) || !told.hasSet(delays)) {
            return NONE_SUCH;
        }
        course.follow(delays);
        return course.peakOf(side);
    }

    public int swings(int delays) {
        if (!told.hasSet(delays)) {
            return NONE_SUCH;
        }
        course.follow(delays);
        return course.countSwings();
    }

    public int worst(int side) {
        return told.hasSide(side) ? course.goodAtEnd(side, course.worstSet(side)) : NO_FRONT;
    }

    public int by(int side) {
        return told.hasSide(side) ? course.worstSet(side) : NONE_SUCH;
    }

    public int ways(int side) {
        return told.hasSide(side) ? course.countWays(side) : NONE_SUCH;
    }

    public int idle() {
        return told.isTold() ? course.idleTrains() : NONE_SUCH;
    }

    public long enough(int side, int what) {
        if (!told.hasSide(side) || !isPart(what)) {
            return NONE_SUCH;
        }
        return Chances.lowest(fares.enoughParts(side), Chances.hundreds(Integer.bitCount(told.trainsOf(side))), what);
    }

    public long chance(int side, int what) {
        if (!told.hasSide(side) || !isPart(what)) {
            return NONE_SUCH;
        }
        return Chances.lowest(course.winningParts(side), Chances.hundreds(told.trains.size), what);
    }

    public int send(int side) {
        return told.hasSide(side) ? told.priceOf(fares.sentSet(side)) : NONE_SUCH;
    }

    public int sent(int side) {
        return told.hasSide(side) ? fares.sentSet(side) : NONE_SUCH;
    }

    public int fewest(int side) {
        return told.hasSide(side) ? fares.fewestSent(side) : NONE_SUCH;
    }

    public int risk(int side, int n) {
        return isRisk(side, n) ? told.priceOf(fares.riskedSet(side, n)) : NONE_SUCH;
    }

    public int risked(int side, int n) {
        return isRisk(side, n) ? fares.riskedSet(side, n) : NONE_SUCH;
    }

    public int bribe(int side) {
        return told.hasSide(side) ? told.priceOf(fares.bribedSet(side, NONE)) : NONE_SUCH;
    }

    public int bribed(int side) {
        return told.hasSide(side) ? fares.bribedSet(side, NONE) : NONE_SUCH;
    }

    public int guard(int side) {
        return told.hasSide(side) ? fares.guardedTrain(side) : NONE_SUCH;
    }

    public int guarded(int side) {
        int train = told.hasSide(side) ? fares.guardedTrain(side) : NONE;
        return train == NONE ? NONE_SUCH : told.priceOf(fares.bribedSet(side, train));
    }

    public int spoil(int side, int n) {
        return isPurse(side, n) ? course.goodAtEnd(side, fares.spoiledSet(side, n)) : NO_FRONT;
    }

    public int spoils(int side, int n) {
        return isPurse(side, n) ? fares.spoiledSet(side, n) : NONE_SUCH;
    }

    public int answer(int side, int n) {
        return isPurse(side, n) ? fares.answeredGood(side, n) : NO_FRONT;
    }

    public int rests(int n) {
        return isPurse(0, n) ? fares.countRests(n) : NONE_SUCH;
    }

    public int since(int side, int delays) {
        if (!told.hasSide(side) || !told.hasSet(delays)) {
            return NONE_SUCH;
        }
        for (int minute = 0; minute <= LAST_MINUTE; minute++) {
            if (told.menThere(side, minute, delays) >= told.needOf(side)) {
                return minute;
            }
        }
        return NONE;
    }

    public int comes(int minute, int delays) {
        if (!isMinute(minute) || !told.hasSet(delays)) {
            return NONE_SUCH;
        }
        return told.comingIn(minute, delays);
    }

    public long even(int delays) {
        if (!told.hasSet(delays)) {
            return NONE_SUCH;
        }
        long minutes = 0;
        for (int minute = 0; minute < told.minutes; minute++) {
            if (told.leadIn(minute, delays) == 0) {
                minutes |= 1L << minute;
            }
        }
        return minutes;
    }

    public int hold(int n, int m) {
        if (!isHost(n) || !isHost(m)) {
            return NO_FRONT;
        }
        places.settle(n, m);
        return places.value;
    }

    public int holds(int n, int m, int i) {
        if (!isHost(n) || !isHost(m) || !isPlace(i)) {
            return NONE_SUCH;
        }
        places.settle(n, m);
        return places.way[i];
    }

    public int reply(int n, int m, int i) {
        if (!isHost(n) || !isHost(m) || !isPlace(i)) {
            return NONE_SUCH;
        }
        places.settle(n, m);
        return places.countered[i];
    }

    public int readings(int minute) {
        return isPeaceMinute(minute) ? pacts.countReadings(minute) : NONE_SUCH;
    }

    public long loopholes() {
        return told.isTold() ? pacts.loopholeMinutes() : NONE_SUCH;
    }

    public int close(int minute) {
        if (!isPeaceMinute(minute)) {
            return NONE_SUCH;
        }
        int bounds = pacts.closingBounds(minute);
        return bounds == NONE ? NONE : Integer.bitCount(bounds);
    }

    public int closed(int minute) {
        return isPeaceMinute(minute) ? pacts.closingBounds(minute) : NONE_SUCH;
    }

    public int signs() {
        return told.isTold() ? pacts.firstSafeMinute() : NONE_SUCH;
    }

    public long treaties(int delays) {
        if (!told.hasSet(delays)) {
            return NONE_SUCH;
        }
        course.follow(delays);
        return course.treatyEnds();
    }

    public int price(int n, int delays) {
        if (!told.hasSet(delays) || n < 1 || n > told.minutes) {
            return NONE_SUCH;
        }
        course.follow(delays);
        int least = course.farthestFrom(n);
        return least <= 60 ? least : NONE;
    }

    public int spies(int early) {
        return told.hasSet(early) ? suspects.fitting(early) : NONE_SUCH;
    }

    public int watch(int early) {
        return told.hasSet(early) ? suspects.trainToWatch(early) : NONE_SUCH;
    }

    public int leaves(int early) {
        return told.hasSet(early) ? suspects.leftAtWorst(early, suspects.trainToWatch(early)) : NONE_SUCH;
    }

    public int known(int early, int what) {
        if (!told.hasSet(early) || !isPart(what)) {
            return NONE_SUCH;
        }
        return what == 0 ? suspects.knownToAll(early) : suspects.knownToSome(early);
    }

    public int grant() {
        return told.isTold() ? turns.worthOf(turns.bestSet(false)) : NONE_SUCH;
    }

    public int granted() {
        return told.isTold() ? turns.bestSet(false) : NONE_SUCH;
    }

    public int halves() {
        return told.isTold() ? turns.worthOf(turns.bestSet(true)) : NONE_SUCH;
    }

    public int halved() {
        return told.isTold() ? turns.bestSet(true) : NONE_SUCH;
    }

    public long dry(int n, int k, int what) {
        if (!told.isTold() || n < 1 || n > 9 || k < 0 || k > n || !isPart(what)) {
            return NONE_SUCH;
        }
        return Chances.lowest(Chances.dryParts(told.rain, n, k), Chances.hundreds(n), what);
    }

    public int insist(int k) {
        return told.isTold() && isPercent(k) ? Chances.wednesdaysToInsist(told.rain, k) : NONE_SUCH;
    }

    public int tell(int train, int what, int n) {
        if (!told.hasTrain(train) || what < 0 || what > War.TOLD_PRICE || n < 0 || n > War.mostTold(what)) {
            return NONE_SUCH;
        }
        course.forget();
        return told.change(train, what, n);
    }

    public int needs(int side, int n) {
        if (!told.hasSide(side) || n < 0 || n > War.mostTold(War.TOLD_NEED)) {
            return NONE_SUCH;
        }
        course.forget();
        return told.change(side, War.TOLD_NEED, n);
    }

    public int undo() {
        if (!told.isTold()) {
            return NONE_SUCH;
        }
        course.forget();
        return told.takeBack();
    }

    public int drawn(int seed, int what) {
        if (!isSeed(seed) || what < 0 || what > 2) {
            return NONE_SUCH;
        }
        int delays = Chances.drawnDelays(told, seed);
        if (what == 0) {
            return delays;
        }
        if (what == 1) {
            return delays == NONE ? NONE : course.winnerBy(delays);
        }
        if (delays == NONE) {
            return 0;
        }
        course.follow(delays);
        return course.frontBehind(told.minutes);
    }

    public int luck(int seed, int n, int side) {
        if (!isSeed(seed) || n < 1 || n > 20 || !told.hasSide(side)) {
            return NONE_SUCH;
        }
        int won = 0;
        for (int i = 0; i < n; i++) {
            int delays = Chances.drawnDelays(told, seed + i);
            if (delays != NONE && course.winnerBy(delays) == side) {
                won++;
            }
        }
        return won;
    }

    public int count(int what) {
        switch (what) {
            case 0:
                return told.minutes;
            case 1:
                return told.lateMinute;
            case 2:
                return told.peace;
            case 3:
                return told.rain;
            case 4:
                return told.trains.size;
            case 5:
                return told.teas.size;
            case 6:
                return told.asks.size;
            case 7:
                return told.rules.size;
            case 8:
                return told.spies.size;
            case 9:
                return told.lines;
            case 10:
                return reader.length;
            case 11:
                return told.changes.size;
            case 12:
                return slots.countRows();
            default:
                return NONE;
        }
    }

    public int image(int k) {
        if (!isImage(k)) {
            return NONE_SUCH;
        }
        War image = images[k];
        if (image == null) {
            image = new War();
            images[k] = image;
        }
        image.become(told);
        return 0;
    }

    public int back(int k) {
        if (!isImage(k)) {
            return NONE_SUCH;
        }
        War image = images[k];
        if (image == null) {
            return NOTHING;
        }
        told.become(image);
        course.forget();
        return 0;
    }

    public int row(int slot, int width, int n) {
        return slots.lay(slot, width, n);
    }

    public int write(int slot, int i, long v) {
        return slots.put(slot, i, v);
    }

    public int paste(int slot, int i, int to, int k, int n) {
        return slots.copy(slot, i, to, k, n);
    }

    private static boolean isMinute(int minute) {
        return minute >= 0 && minute <= LAST_MINUTE;
    }

    private boolean isPeaceMinute(int minute) {
        return told.isTold() && minute >= 0 && minute <= LAST_PEACE_MINUTE;
    }

    private static boolean isPart(int what) {
        return what == 0 || what == 1;
    }

    private static boolean isPercent(int n) {
        return n >= 0 && n <= 100;
    }

    private boolean isRisk(int side, int n) {
        return told.hasSide(side) && isPercent(n);
    }

    private boolean isPurse(int side, int n) {
        return told.hasSide(side) && n >= 0 && n <= MOST_PRICE;
    }

    private static boolean isHost(int men) {
        return men >= 0 && men <= 9;
    }

    private static boolean isPlace(int i) {
        return i >= 0 && i < Places.PLACES;
    }

    private boolean isSeed(int seed) {
        return told.isTold() && seed >= 0 && seed <= MOST_SEED;
    }

    private static boolean isImage(int k) {
        return k >= 0 && k < IMAGES;
    }

    /** Rows of numbers, all of one width, as many as there is room for. */
    private static final class Table {
        private final int width;
        private final int room;
        private final int[] cells;
        int size;

        Table(int room, int width) {
            this.room = Math.max(0, room);
            this.width = Math.max(0, width);
            cells = new int[this.room * this.width];
        }

        boolean isFull() {
            return size >= room;
        }

        int cell(int row, int column) {
            if (row < 0 || row >= size || column < 0 || column >= width) {
                return NONE_SUCH;
            }
            return cells[row * width + column];
        }

        void set(int row, int column, int value) {
            if (row >= 0 && row < size && column >= 0 && column < width) {
                cells[row * width + column] = value;
            }
        }

        void add() {
            if (!isFull()) {
                size++;
            }
        }

        void drop() {
            if (size > 0) {
                size--;
            }
        }

        void become(Table other) {
            size = other.size;
            System.arraycopy(other.cells, 0, cells, 0, Math.min(cells.length, other.cells.length));
        }
    }

    /** A WAR as it was told, with the changes since; without LINES there is none. */
    private static final class War {
        static final int SIDE = 0;
        static final int MEN = 1;
        static final int DUE = 2;
        static final int ODDS = 3;
        static final int BY = 4;
        static final int PRICE = 5;

        static final int TOLD_PRICE = 2;
        static final int TOLD_NEED = 3;
        private static final int[] TOLD_COLUMN = {DUE, ODDS, PRICE};
        private static final int[] MOST_TOLD = {59, 100, MOST_PRICE, 999};

        int lines;
        int minutes;
        int lateMinute;
        int peace;
        int rain;
        private final int[] need = new int[2];
        final Table trains = new Table(MOST_TRAINS, 6);
        final Table teas = new Table(4, 2);
        final Table asks = new Table(MOST_ASKS, 4);
        final Table rules = new Table(4, 2);
        final Table spies = new Table(5, 1);
        final Table changes = new Table(60, 3);

        static boolean isIn(int set, int i) {
            return (set >> i & 1) != 0;
        }

        /** The sum of a set with the TRAIN is n more than without it; sums[0] is told ahead, the TRAINS come by numbers. */
        static void spread(int[] sums, int train, int n) {
            int bit = 1 << train;
            for (int set = 0; set < bit && (set | bit) < sums.length; set++) {
                sums[set | bit] = sums[set] + n;
            }
        }

        static int mostTold(int what) {
            return what >= 0 && what < MOST_TOLD.length ? MOST_TOLD[what] : NONE;
        }

        void clear() {
            lines = 0;
            minutes = 0;
            lateMinute = 0;
            peace = 0;
            rain = 0;
            need[0] = 0;
            need[1] = 0;
            trains.size = 0;
            teas.size = 0;
            asks.size = 0;
            rules.size = 0;
            spies.size = 0;
            changes.size = 0;
        }

        void become(War other) {
            lines = other.lines;
            minutes = other.minutes;
            lateMinute = other.lateMinute;
            peace = other.peace;
            rain = other.rain;
            need[0] = other.need[0];
            need[1] = other.need[1];
            trains.become(other.trains);
            teas.become(other.teas);
            asks.become(other.asks);
            rules.become(other.rules);
            spies.become(other.spies);
            changes.become(other.changes);
        }

        boolean isTold() {
            return lines > 0;
        }

        boolean hasSide(int side) {
            return isTold() && (side == 0 || side == 1);
        }

        boolean hasTrain(int train) {
            return isTold() && train >= 0 && train < trains.size;
        }

        boolean hasSet(int set) {
            return isTold() && set >= 0 && set < sets();
        }

        /** How many sets of TRAINS there are: no more than the rows by sets have room for. */
        int sets() {
            return Math.min(1 << trains.size, MOST_SETS);
        }

        int needOf(int side) {
            return side == 0 || side == 1 ? need[side] : 0;
        }

        void setNeed(int side, int men) {
            if (side == 0 || side == 1) {
                need[side] = men;
            }
        }

        int trainsOf(int side) {
            int set = 0;
            for (int train = 0; train < trains.size; train++) {
                if (trains.cell(train, SIDE) == side) {
                    set |= 1 << train;
                }
            }
            return set;
        }

        /** The price of a set together; NONE for a set that is NONE. */
        int priceOf(int set) {
            if (set == NONE) {
                return NONE;
            }
            int price = 0;
            for (int train = 0; train < trains.size; train++) {
                if (isIn(set, train)) {
                    price += trains.cell(train, PRICE);
                }
            }
            return price;
        }

        int arrival(int train, int delays) {
            return trains.cell(train, DUE) + (isIn(delays, train) ? trains.cell(train, BY) : 0);
        }

        int comingIn(int minute, int delays) {
            int set = 0;
            for (int train = 0; train < trains.size; train++) {
                if (arrival(train, delays) == minute) {
                    set |= 1 << train;
                }
            }
            return set;
        }

        int menThere(int side, int minute, int delays) {
            int men = 0;
            for (int train = 0; train < trains.size; train++) {
                if (trains.cell(train, SIDE) == side && arrival(train, delays) <= minute) {
                    men += trains.cell(train, MEN);
                }
            }
            return men;
        }

        /** How many men of a TRAIN are not there in a MINUTE because it is late. */
        int menLost(int train, int minute) {
            int past = minute - trains.cell(train, DUE);
            return past >= 0 && past < trains.cell(train, BY) ? trains.cell(train, MEN) : 0;
        }

        /** How many men more SIDE 0 has there than SIDE 1. */
        int leadIn(int minute, int delays) {
            return menThere(0, minute, delays) - menThere(1, minute, delays);
        }

        boolean isTea(int minute) {
            for (int tea = 0; tea < teas.size; tea++) {
                if (minute >= teas.cell(tea, 0) && minute <= teas.cell(tea, 1)) {
                    return true;
                }
            }
            return false;
        }

        int lateSides(int delays) {
            int sides = 0;
            for (int side = 0; side < 2; side++) {
                if (menThere(side, lateMinute, delays) < needOf(side)) {
                    sides |= 1 << side;
                }
            }
            return sides;
        }

        int change(int row, int what, int n) {
            if (changes.isFull()) {
                return NO_CHANGE;
            }
            int old = toldNumber(row, what);
            changes.add();
            int latest = changes.size - 1;
            changes.set(latest, 0, row);
            changes.set(latest, 1, what);
            changes.set(latest, 2, old);
            setToldNumber(row, what, n);
            return old;
        }

        int takeBack() {
            if (changes.size == 0) {
                return NO_CHANGE;
            }
            int latest = changes.size - 1;
            setToldNumber(changes.cell(latest, 0), changes.cell(latest, 1), changes.cell(latest, 2));
            changes.drop();
            return changes.size;
        }

        private int toldNumber(int row, int what) {
            if (what >= 0 && what < TOLD_COLUMN.length) {
                return trains.cell(row, TOLD_COLUMN[what]);
            }
            return needOf(row);
        }

        private void setToldNumber(int row, int what, int n) {
            if (what >= 0 && what < TOLD_COLUMN.length) {
                trains.set(row, TOLD_COLUMN[what], n);
            } else {
                setNeed(row, n);
            }
        }
    }

    /** The TAPE, and the reading of it as a WAR. */
    private static final class Reader {
        private static final int END = 0;
        private static final int BLANK = 1;
        private static final int WORD = 2;
        private static final int NUMBER = 3;
        private static final int SIGN = 4;
        private static final int OTHER = 5;

        private static final int OUT_OF_PLACE = 1;
        private static final int OUT_OF_BOUNDS = 2;
        private static final int TOO_MANY = 3;

        /** Above every bound; longer numbers stay at it, so that none wraps around. */
        private static final int HUGE = 100000;

        private final byte[] tape = new byte[MOST_BYTES];
        int length;
        int fault;
        int place = NONE;
        private final War war;
        private int from;
        private int to;
        private int kind;
        private int value;

        Reader(War war) {
            this.war = war;
        }

        boolean hasRoom(int bytes) {
            return length + bytes <= MOST_BYTES;
        }

        void take(int number) {
            for (int shift = 24; shift >= 0; shift -= 8) {
                if (length < tape.length) {
                    tape[length] = (byte) (number >> shift);
                    length++;
                }
            }
        }

        boolean cut(int n) {
            if (n < 0 || n > length) {
                return false;
            }
            length = n;
            return true;
        }

        void read() {
            war.clear();
            fault = 0;
            place = NONE;
            to = 0;
            advance();
            for (int line = 0; line < MOST_BYTES && kind != END && fault == 0; line++) {
                readLine();
                sign();
                war.lines++;
            }
        }

        private void readLine() {
            if (war.lines == 0) {
                readWar();
            } else if (sees("need")) {
                readNeed();
            } else if (sees("train")) {
                readTrain();
            } else if (sees("tea")) {
                readSpan(war.teas);
            } else if (sees("cannon")) {
                readAsk();
            } else if (sees("rule")) {
                readSpan(war.rules);
            } else if (sees("spy")) {
                readSpy();
            } else {
                blame(OUT_OF_PLACE);
            }
        }

        private void readWar() {
            word("war");
            word("minutes");
            war.minutes = number(1, MOST_MINUTES);
            word("late");
            war.lateMinute = number(0, war.minutes - 1);
            word("peace");
            war.peace = number(0, 60);
            word("rain");
            war.rain = number(0, 100);
        }

        private void readNeed() {
            advance();
            int side = number(0, 1);
            war.setNeed(side, number(0, 999));
        }

        private void readTrain() {
            begin(war.trains);
            cell(war.trains, War.SIDE, 0, 1);
            word("men");
            cell(war.trains, War.MEN, 1, 99);
            word("due");
            cell(war.trains, War.DUE, 0, 59);
            word("odds");
            cell(war.trains, War.ODDS, 0, 100);
            word("by");
            cell(war.trains, War.BY, 1, 30);
            word("price");
            cell(war.trains, War.PRICE, 0, MOST_PRICE);
        }

        /** Of a tea, or a rule. */
        private void readSpan(Table table) {
            begin(table);
            cell(table, 0, 0, 59);
            word("to");
            cell(table, 1, table.cell(table.size - 1, 0), 59);
        }

        private void readAsk() {
            begin(war.asks);
            cell(war.asks, Cannon.SIDE, 0, 1);
            word("at");
            cell(war.asks, Cannon.AT, 0, 59);
            word("for");
            cell(war.asks, Cannon.FOR, 1, 20);
            word("worth");
            cell(war.asks, Cannon.WORTH, 1, 99);
        }

        private void readSpy() {
            begin(war.spies);
            word("knows");
            int known = 1 << number(0, war.trains.size - 1);
            for (int i = 0; i < MOST_BYTES && kind == NUMBER && fault == 0; i++) {
                known |= 1 << number(0, war.trains.size - 1);
            }
            war.spies.set(war.spies.size - 1, 0, known);
        }

        private void begin(Table table) {
            if (table.isFull()) {
                blame(TOO_MANY);
                return;
            }
            table.add();
            advance();
        }

        private void cell(Table table, int column, int least, int most) {
            table.set(table.size - 1, column, number(least, most));
        }

        private void word(String word) {
            if (!sees(word)) {
                blame(OUT_OF_PLACE);
                return;
            }
            advance();
        }

        private int number(int least, int most) {
            if (kind != NUMBER) {
                blame(OUT_OF_PLACE);
                return 0;
            }
            int number = value;
            if (number < least || number > most) {
                blame(OUT_OF_BOUNDS);
                return 0;
            }
            advance();
            return number;
        }

        private void sign() {
            if (kind != SIGN) {
                blame(OUT_OF_PLACE);
                return;
            }
            advance();
        }

        /** The first FAULT stands: what is read behind it may be anything. */
        private void blame(int what) {
            if (fault == 0) {
                fault = what;
                place = from;
            }
        }

        private boolean sees(String word) {
            if (kind != WORD || to - from != word.length()) {
                return false;
            }
            for (int i = 0; i < word.length(); i++) {
                if (byteAt(from + i) != word.charAt(i)) {
                    return false;
                }
            }
            return true;
        }

        private void advance() {
            from = to;
            while (from < length && kindAt(from) == BLANK) {
                from++;
            }
            kind = kindAt(from);
            value = 0;
            to = Math.min(from + 1, length);
            if (kind == NUMBER) {
                value = byteAt(from) - '0';
            }
            if (kind != WORD && kind != NUMBER) {
                return;
            }
            for (; to < length && kindAt(to) == kind; to++) {
                if (kind == NUMBER) {
                    value = Math.min(HUGE, value * 10 + byteAt(to) - '0');
                }
            }
        }

        private int kindAt(int at) {
            if (at < 0 || at >= length || at >= tape.length) {
                return END;
            }
            int sign = tape[at];
            if (sign == 32 || sign == 10) {
                return BLANK;
            }
            if (sign >= 'a' && sign <= 'z') {
                return WORD;
            }
            if (sign >= '0' && sign <= '9') {
                return NUMBER;
            }
            return sign == ';' ? SIGN : OTHER;
        }

        private int byteAt(int at) {
            return at >= 0 && at < tape.length ? tape[at] : 0;
        }
    }

    /** How the FRONT goes: from MINUTE to MINUTE by one DELAYS, and in the end by each. */
    private static final class Course {
        private final War war;
        private final int[] fronts = new int[MOST_MINUTES + 1];
        private final int[] men = new int[MOST_SETS];
        private final int[] ends = new int[MOST_SETS];
        private final int[] winners = new int[MOST_SETS];
        private boolean reckoned;

        Course(War war) {
            this.war = war;
        }

        /** The WAR is not the one by which the ends were reckoned. */
        void forget() {
            reckoned = false;
        }

        void follow(int delays) {
            int front = 0;
            fronts[0] = 0;
            for (int minute = 0; minute < war.minutes && minute < MOST_MINUTES; minute++) {
                if (!war.isTea(minute)) {
                    front += signOf(war.leadIn(minute, delays));
                }
                fronts[minute + 1] = front;
            }
        }

        int frontBehind(int n) {
            return n >= 0 && n < fronts.length ? fronts[n] : 0;
        }

        int winnerBy(int delays) {
            follow(delays);
            return winner(war.lateSides(delays), frontBehind(war.minutes));
        }

        int peakOf(int side) {
            int peak = 0;
            for (int n = 1; n <= war.minutes; n++) {
                if (good(side, frontBehind(n)) > good(side, frontBehind(peak))) {
                    peak = n;
                }
            }
            return peak;
        }

        int countSwings() {
            int swings = 0;
            int held = 0;
            for (int n = 1; n <= war.minutes; n++) {
                int sign = signOf(frontBehind(n));
                if (sign != 0) {
                    if (sign == -held) {
                        swings++;
                    }
                    held = sign;
                }
            }
            return swings;
        }

        /** The farthest that the FRONT goes to either side behind more than n MINUTES. */
        int farthestFrom(int n) {
            int farthest = 0;
            for (int more = n + 1; more <= war.minutes; more++) {
                farthest = Math.max(farthest, Math.abs(frontBehind(more) - frontBehind(n)));
            }
            return farthest;
        }

        /** A SIDE's GOOD is the other's loss: neither breaks what the FRONT strays from by peace at most. */
        long treatyEnds() {
            long treaties = 0;
            for (int n = 1; n <= war.minutes; n++) {
                if (farthestFrom(n) <= war.peace) {
                    treaties |= 1L << (n - 1);
                }
            }
            return treaties;
        }

        /** Told only behind reckon(). */
        int goodAtEnd(int side, int set) {
            return good(side, set >= 0 && set < MOST_SETS ? ends[set] : 0);
        }

        int worstSet(int side) {
            reckon();
            int worst = 0;
            for (int set = 1; set < war.sets(); set++) {
                int less = goodAtEnd(side, worst) - goodAtEnd(side, set);
                if (less > 0 || less == 0 && Integer.bitCount(set) < Integer.bitCount(worst)) {
                    worst = set;
                }
            }
            return worst;
        }

        int countWays(int side) {
            reckon();
            int ways = 0;
            for (int set = 0; set < war.sets(); set++) {
                if (reckonedWinner(set) == side) {
                    ways++;
                }
            }
            return ways;
        }

        int idleTrains() {
            reckon();
            int idle = 0;
            for (int train = 0; train < war.trains.size; train++) {
                if (isIdle(1 << train)) {
                    idle |= 1 << train;
                }
            }
            return idle;
        }

        /** The chance that a SIDE WINS, in parts of so many hundreds as there are TRAINS. */
        long winningParts(int side) {
            reckon();
            long parts = 0;
            for (int set = 0; set < war.sets(); set++) {
                if (reckonedWinner(set) == side) {
                    parts += Chances.delayParts(war, set);
                }
            }
            return parts;
        }

        private boolean isIdle(int train) {
            for (int set = 0; set < war.sets(); set++) {
                if ((set & train) == 0 && reckonedWinner(set) != reckonedWinner(set | train)) {
                    return false;
                }
            }
            return true;
        }

        void reckon() {
            if (reckoned) {
                return;
            }
            Arrays.fill(ends, 0);
            int steps = 0;
            for (int minute = 0; minute < war.minutes; minute++) {
                if (minute == 0 || isArrival(minute)) {
                    moveEnds(steps);
                    steps = 0;
                    takeMen(minute, 1, -1);
                }
                if (!war.isTea(minute)) {
                    steps++;
                }
            }
            moveEnds(steps);
            findWinners();
            reckoned = true;
        }

        /** In other MINUTES the men are those of the MINUTE before. */
        private boolean isArrival(int minute) {
            return (war.comingIn(minute, 0) | war.comingIn(minute, war.sets() - 1)) != 0;
        }

        /** By each DELAYS the men there in a MINUTE, each SIDE's so many times. */
        private void takeMen(int minute, int first, int second) {
            men[0] = first * war.menThere(0, minute, 0) + second * war.menThere(1, minute, 0);
            for (int train = 0; train < war.trains.size; train++) {
                int times = war.trains.cell(train, War.SIDE) == 0 ? first : second;
                War.spread(men, train, -times * war.menLost(train, minute));
            }
        }

        private void moveEnds(int steps) {
            for (int set = 0; set < war.sets(); set++) {
                ends[set] += steps * signOf(men[set]);
            }
        }

        private void findWinners() {
            Arrays.fill(winners, 0);
            for (int side = 0; side < 2; side++) {
                takeMen(war.lateMinute, 1 - side, side);
                for (int set = 0; set < war.sets(); set++) {
                    winners[set] |= men[set] < war.needOf(side) ? 1 << side : 0;
                }
            }
            for (int set = 0; set < war.sets(); set++) {
                winners[set] = winner(winners[set], ends[set]);
            }
        }

        private int reckonedWinner(int set) {
            return set >= 0 && set < MOST_SETS ? winners[set] : NONE;
        }

        private static int winner(int lateSides, int front) {
            switch (lateSides) {
                case 1:
                    return 1;
                case 2:
                    return 0;
                default:
                    return front > 0 ? 0 : front < 0 ? 1 : NONE;
            }
        }

        static int good(int side, int front) {
            return side == 0 ? front : -front;
        }

        static int signOf(int n) {
            return n > 0 ? 1 : n < 0 ? -1 : 0;
        }
    }

    /** What prices of TRAINS buy: those that are sent, those that are late. */
    private static final class Fares {
        /** Above every price and every GOOD. */
        private static final int PRICELESS = 1000000;

        private final War war;
        private final Course course;
        private final int[] prices = new int[MOST_SETS];
        private final int[] men = new int[MOST_SETS];
        private final long[] parts = new long[MOST_SETS];
        private final boolean[] fits = new boolean[MOST_SETS];
        private final int[] best = new int[MOST_SETS];
        private final int[] least = new int[MOST_SETS];

        Fares(War war, Course course) {
            this.war = war;
            this.course = course;
        }

        /** The chance of ENOUGH by all TRAINS of a SIDE, in parts of so many hundreds as these are. */
        long enoughParts(int side) {
            takeParts(side);
            int own = war.trainsOf(side);
            return own < MOST_SETS ? parts[own] : 0;
        }

        /** Surely is a hundred times in a hundred. */
        int sentSet(int side) {
            return riskedSet(side, 100);
        }

        int fewestSent(int side) {
            fitByChance(side, 100);
            int own = war.trainsOf(side);
            int fewest = NONE;
            for (int set = 0; set < war.sets(); set++) {
                int size = Integer.bitCount(set);
                if ((set & ~own) == 0 && fits[set] && (fewest == NONE || size < fewest)) {
                    fewest = size;
                }
            }
            return fewest;
        }

        int riskedSet(int side, int n) {
            takePrices();
            fitByChance(side, n);
            return cheapest(war.trainsOf(side));
        }

        /** A TRAIN that is guarded can't be BRIBED; NONE: none is. */
        int bribedSet(int side, int guarded) {
            takePrices();
            fitByDelays(side);
            int own = war.trainsOf(side);
            return cheapest(guarded == NONE ? own : own & ~(1 << guarded));
        }

        int guardedTrain(int side) {
            takePrices();
            fitByDelays(side);
            int own = war.trainsOf(side);
            int most = orPriceless(cheapest(own));
            int found = NONE;
            for (int train = 0; train < war.trains.size; train++) {
                int price = War.isIn(own, train) ? orPriceless(cheapest(own & ~(1 << train))) : 0;
                if (price > most) {
                    most = price;
                    found = train;
                }
            }
            return found;
        }

        int spoiledSet(int side, int n) {
            course.reckon();
            takePrices();
            int own = war.trainsOf(side);
            int found = 0;
            for (int set = 1; set < war.sets(); set++) {
                if ((set & ~own) == 0 && prices[set] <= n && course.goodAtEnd(side, set) < course.goodAtEnd(side, found)) {
                    found = set;
                }
            }
            return found;
        }

        int answeredGood(int side, int n) {
            course.reckon();
            meetAnswers(side, n);
            int own = war.trainsOf(side);
            int answered = PRICELESS;
            for (int set = 0; set < war.sets(); set++) {
                if ((set & ~own) == 0 && prices[set] <= n) {
                    answered = Math.min(answered, best[set]);
                }
            }
            return answered;
        }

        /** SIDE 0 picks of SIDE 1's TRAINS for the greatest FRONT, SIDE 1 of SIDE 0's for the least. */
        int countRests(int n) {
            course.reckon();
            meetAnswers(0, n);
            int own = war.trainsOf(0);
            int rests = 0;
            for (int set = 0; set < war.sets(); set++) {
                int front = course.goodAtEnd(0, set);
                if (isBought(set, own, n) && front == best[set & own] && front == least[set & ~own]) {
                    rests++;
                }
            }
            return rests;
        }

        /** Of each set of own TRAINS the greatest GOOD by the others', of each of the others' the least by own. */
        private void meetAnswers(int side, int n) {
            takePrices();
            Arrays.fill(best, -PRICELESS);
            Arrays.fill(least, PRICELESS);
            int own = war.trainsOf(side);
            for (int set = 0; set < war.sets(); set++) {
                if (isBought(set, own, n)) {
                    int good = course.goodAtEnd(side, set);
                    best[set & own] = Math.max(best[set & own], good);
                    least[set & ~own] = Math.min(least[set & ~own], good);
                }
            }
        }

        /** Each SIDE has a purse of its own. */
        private boolean isBought(int set, int own, int n) {
            return set >= 0 && set < MOST_SETS && prices[set & own] <= n && prices[set & ~own] <= n;
        }

        private void takePrices() {
            prices[0] = 0;
            for (int train = 0; train < war.trains.size; train++) {
                War.spread(prices, train, war.trains.cell(train, War.PRICE));
            }
        }

        /** Those by which, late together, a SIDE is LATE. */
        private void fitByDelays(int side) {
            men[0] = war.menThere(side, war.lateMinute, 0);
            for (int train = 0; train < war.trains.size; train++) {
                boolean isOwn = war.trains.cell(train, War.SIDE) == side;
                War.spread(men, train, isOwn ? -war.menLost(train, war.lateMinute) : 0);
            }
            for (int set = 0; set < war.sets(); set++) {
                fits[set] = men[set] < war.needOf(side);
            }
        }

        /** Those by which, sent alone, ENOUGH is n in a hundred; a hundred times the parts would not go into a long. */
        private void fitByChance(int side, int n) {
            takeParts(side);
            fits[0] = parts[0] * 100 >= n;
            for (int set = 1; set < war.sets(); set++) {
                fits[set] = parts[set] >= n * Chances.hundreds(Integer.bitCount(set) - 1);
            }
        }

        /** Of each set of a SIDE's TRAINS, sent alone, the chance of ENOUGH, in parts of so many hundreds as they are. */
        private void takeParts(int side) {
            men[0] = 0;
            for (int train = 0; train < war.trains.size; train++) {
                boolean counts = war.trains.cell(train, War.SIDE) == side && war.arrival(train, 0) <= war.lateMinute;
                War.spread(men, train, counts ? war.trains.cell(train, War.MEN) : 0);
            }
            for (int set = 0; set < war.sets(); set++) {
                parts[set] = men[set] >= war.needOf(side) ? 1 : 0;
            }
            for (int train = 0; train < war.trains.size; train++) {
                mayBeLate(train);
            }
        }

        /** A TRAIN whose men are lost if it is late is then as if it were not sent. */
        private void mayBeLate(int train) {
            int bit = 1 << train;
            int odds = war.menLost(train, war.lateMinute) > 0 ? war.trains.cell(train, War.ODDS) : 0;
            for (int set = 0; set < war.sets(); set++) {
                if ((set & bit) != 0) {
                    parts[set] = (100 - odds) * parts[set] + odds * parts[set ^ bit];
                }
            }
        }

        /** The least of the sets that fit at the least price; NONE: none fits. */
        private int cheapest(int among) {
            int found = NONE;
            int lowest = PRICELESS;
            for (int set = 0; set < war.sets(); set++) {
                if ((set & ~among) == 0 && fits[set] && prices[set] < lowest) {
                    lowest = prices[set];
                    found = set;
                }
            }
            return found;
        }

        private int orPriceless(int set) {
            return set >= 0 && set < MOST_SETS ? prices[set] : PRICELESS;
        }
    }

    /** Men put on three PLACES against men put on them by one who knows how. */
    private static final class Places {
        static final int PLACES = 3;

        int value;
        final int[] way = new int[PLACES];
        final int[] countered = new int[PLACES];
        private final int[] tried = new int[PLACES];
        private final int[] against = new int[PLACES];

        void settle(int n, int m) {
            value = -PLACES - 1;
            for (int a = 0; a <= n; a++) {
                for (int b = 0; a + b <= n; b++) {
                    put(tried, a, b, n);
                    int sure = meet(m);
                    if (sure > value) {
                        value = sure;
                        put(way, a, b, n);
                        put(countered, against[0], against[1], m);
                    }
                }
            }
        }

        /** The VALUE of what is tried against the first of the replies that are best. */
        private int meet(int m) {
            int sure = PLACES + 1;
            int first = 0;
            int second = 0;
            for (int a = 0; a <= m; a++) {
                for (int b = 0; a + b <= m; b++) {
                    int got = Course.signOf(tried[0] - a) + Course.signOf(tried[1] - b)
                            + Course.signOf(tried[2] - (m - a - b));
                    if (got < sure) {
                        sure = got;
                        first = a;
                        second = b;
                    }
                }
            }
            put(against, first, second, m);
            return sure;
        }

        private static void put(int[] row, int a, int b, int together) {
            if (row.length == PLACES) {
                row[0] = a;
                row[1] = b;
                row[2] = together - a - b;
            }
        }
    }

    /** The RULES of when peace may be signed, and how they may be read. */
    private static final class Peace {
        private final War war;

        Peace(War war) {
            this.war = war;
        }

        int countReadings(int minute) {
            int count = 0;
            for (int reading = 0; reading < allReadings(); reading++) {
                if (isHeld(minute, reading)) {
                    count++;
                }
            }
            return count;
        }

        /** The more bounds are meant, the less peace HOLDS: so the ends of the READINGS tell of all. */
        long loopholeMinutes() {
            long minutes = 0;
            for (int minute = 0; minute <= LAST_PEACE_MINUTE; minute++) {
                if (isHeld(minute, 0) && !isHeld(minute, allReadings() - 1)) {
                    minutes |= 1L << minute;
                }
            }
            return minutes;
        }

        int firstSafeMinute() {
            for (int minute = 0; minute <= LAST_PEACE_MINUTE; minute++) {
                if (isHeld(minute, allReadings() - 1)) {
                    return minute;
                }
            }
            return NONE;
        }

        /** If peace HOLDS by any READING of the others, it does with none of them meant. */
        int closingBounds(int minute) {
            int found = NONE;
            int fewest = 2 * war.rules.size + 1;
            for (int bounds = 0; bounds < allReadings(); bounds++) {
                if (Integer.bitCount(bounds) < fewest && !isHeld(minute, bounds)) {
                    found = bounds;
                    fewest = Integer.bitCount(bounds);
                }
            }
            return found;
        }

        private int allReadings() {
            return 1 << 2 * war.rules.size;
        }

        private boolean isHeld(int minute, int reading) {
            for (int rule = 0; rule < war.rules.size; rule++) {
                int first = war.rules.cell(rule, 0);
                int second = war.rules.cell(rule, 1);
                boolean isBehind = minute > first || minute == first && War.isIn(reading, 2 * rule);
                boolean isAhead = minute < second || minute == second && War.isIn(reading, 2 * rule + 1);
                if (isBehind && isAhead) {
                    return false;
                }
            }
            return true;
        }
    }

    /** The SPIES, by the TRAINS that came early. */
    private static final class Suspects {
        private final War war;

        Suspects(War war) {
            this.war = war;
        }

        int fitting(int early) {
            int set = 0;
            for (int spy = 0; spy < war.spies.size; spy++) {
                if ((early & ~knownTo(spy)) == 0) {
                    set |= 1 << spy;
                }
            }
            return set;
        }

        int trainToWatch(int early) {
            int found = NONE;
            int fewest = Integer.bitCount(fitting(early));
            for (int train = 0; train < war.trains.size; train++) {
                int left = leftAtWorst(early, train);
                if (!War.isIn(early, train) && left < fewest) {
                    fewest = left;
                    found = train;
                }
            }
            return found;
        }

        /** NONE: no TRAIN is watched. */
        int leftAtWorst(int early, int train) {
            int all = Integer.bitCount(fitting(early));
            if (train == NONE) {
                return all;
            }
            int knowing = Integer.bitCount(fitting(early | 1 << train));
            return Math.max(knowing, all - knowing);
        }

        int knownToAll(int early) {
            int set = fitting(early);
            int known = set == 0 ? 0 : war.sets() - 1;
            for (int spy = 0; spy < war.spies.size; spy++) {
                if (War.isIn(set, spy)) {
                    known &= knownTo(spy);
                }
            }
            return known;
        }

        int knownToSome(int early) {
            int set = fitting(early);
            int known = 0;
            for (int spy = 0; spy < war.spies.size; spy++) {
                if (War.isIn(set, spy)) {
                    known |= knownTo(spy);
                }
            }
            return known;
        }

        private int knownTo(int spy) {
            return war.spies.cell(spy, 0);
        }
    }

    /** The one cannon, and which ASKS of it can be granted together. */
    private static final class Cannon {
        static final int SIDE = 0;
        static final int AT = 1;
        static final int FOR = 2;
        static final int WORTH = 3;

        private final War war;
        private final int[] order = new int[MOST_ASKS];

        Cannon(War war) {
            this.war = war;
        }

        /** The least of the sets that are worth most. */
        int bestSet(boolean byHalves) {
            sortByMinute();
            int found = 0;
            int most = 0;
            for (int set = 1; set < 1 << war.asks.size; set++) {
                int worth = worthOf(set);
                if (worth > most && canStand(set, byHalves)) {
                    most = worth;
                    found = set;
                }
            }
            return found;
        }

        int worthOf(int set) {
            int worth = 0;
            for (int ask = 0; ask < war.asks.size; ask++) {
                if (War.isIn(set, ask)) {
                    worth += war.asks.cell(ask, WORTH);
                }
            }
            return worth;
        }

        private boolean canStand(int set, boolean byHalves) {
            int free = 0;
            int side = NONE;
            for (int i = 0; i < war.asks.size && i < order.length; i++) {
                int ask = order[i];
                if (War.isIn(set, ask)) {
                    int at = war.asks.cell(ask, AT);
                    boolean isSameSide = war.asks.cell(ask, SIDE) == side;
                    if (at < free || byHalves && isSameSide) {
                        return false;
                    }
                    free = at + war.asks.cell(ask, FOR);
                    side = war.asks.cell(ask, SIDE);
                }
            }
            return true;
        }

        private void sortByMinute() {
            for (int ask = 0; ask < war.asks.size && ask < order.length; ask++) {
                int to = ask;
                for (; to > 0 && war.asks.cell(order[to - 1], AT) > war.asks.cell(ask, AT); to--) {
                    order[to] = order[to - 1];
                }
                order[to] = ask;
            }
        }
    }

    /** FRACTIONS, rain and DRAWS. */
    private static final class Chances {
        /** What 0: above, else below, in lowest terms. */
        static long lowest(long above, long below, int what) {
            long common = Math.max(1, commonDivisor(above, below));
            return (what == 0 ? above : below) / common;
        }

        static long hundreds(int n) {
            return power(100, n);
        }

        /** The chance of just these DELAYS, in parts of so many hundreds as there are TRAINS. */
        static long delayParts(War war, int delays) {
            long parts = 1;
            for (int train = 0; train < war.trains.size; train++) {
                int odds = war.trains.cell(train, War.ODDS);
                parts *= War.isIn(delays, train) ? odds : 100 - odds;
            }
            return parts;
        }

        static long dryParts(int rain, int n, int k) {
            return choices(n, k) * power(100 - rain, k) * power(rain, n - k);
        }

        static int wednesdaysToInsist(int rain, int k) {
            int left = 1000000;
            for (int n = 1; n <= 60; n++) {
                left = left * rain / 100;
                if (left <= 10000 * (100 - k)) {
                    return n;
                }
            }
            return NONE;
        }

        /** NONE: the WAR is not held. */
        static int drawnDelays(War war, int seed) {
            long x = next(seed);
            if (draw(x) < war.rain) {
                return NONE;
            }
            int delays = 0;
            for (int train = 0; train < war.trains.size; train++) {
                x = next(x);
                if (draw(x) < war.trains.cell(train, War.ODDS)) {
                    delays |= 1 << train;
                }
            }
            return delays;
        }

        private static long next(long x) {
            return (1103515245L * x + 12345L) % 2147483648L;
        }

        private static int draw(long x) {
            return (int) (x / 65536 % 100);
        }

        private static long power(int base, int n) {
            long power = 1;
            for (int i = 0; i < n; i++) {
                power *= base;
            }
            return power;
        }

        private static long choices(int n, int k) {
            long choices = 1;
            for (int i = 1; i <= k; i++) {
                choices = choices * (n - k + i) / i;
            }
            return choices;
        }

        private static long commonDivisor(long a, long b) {
            for (int step = 0; step < 200 && b != 0; step++) {
                long rest = a % b;
                a = b;
                b = rest;
            }
            return a;
        }
    }

    /** The SLOTS, with their rows of numbers. */
    private static final class Slots {
        private static final int SLOTS = 4;
        private static final int WIDTHS = 4;
        private static final int MOST_NUMBERS = 60;

        private final boolean[] has = new boolean[SLOTS];
        private final int[] widths = new int[SLOTS];
        private final int[] sizes = new int[SLOTS];
        private final long[] numbers = new long[SLOTS * MOST_NUMBERS];

        int countRows() {
            int rows = 0;
            for (int slot = 0; slot < SLOTS; slot++) {
                if (has[slot]) {
                    rows++;
                }
            }
            return rows;
        }

        int lay(int slot, int width, int n) {
            if (!isSlot(slot) || width < 0 || width >= WIDTHS || n > MOST_NUMBERS) {
                return NONE_SUCH;
            }
            if (n < 0) {
                return BELOW_ZERO;
            }
            has[slot] = true;
            widths[slot] = width;
            sizes[slot] = n;
            for (int i = 0; i < n; i++) {
                numbers[slot * MOST_NUMBERS + i] = 0;
            }
            return 0;
        }

        int put(int slot, int i, long v) {
            if (!isSlot(slot)) {
                return NONE_SUCH;
            }
            if (!has[slot]) {
                return NOTHING;
            }
            if (i < 0 || i >= sizes[slot]) {
                return BEYOND;
            }
            numbers[slot * MOST_NUMBERS + i] = cutTo(widths[slot], v);
            return 0;
        }

        int copy(int slot, int i, int to, int k, int n) {
            if (!isSlot(slot) || !isSlot(to)) {
                return NONE_SUCH;
            }
            if (!has[slot] || !has[to]) {
                return NOTHING;
            }
            if (widths[slot] != widths[to]) {
                return OTHER_WIDTH;
            }
            if (!isWithin(slot, i, n) || !isWithin(to, k, n)) {
                return BEYOND;
            }
            System.arraycopy(numbers, slot * MOST_NUMBERS + i, numbers, to * MOST_NUMBERS + k, n);
            return 0;
        }

        private boolean isWithin(int slot, int i, int n) {
            return i >= 0 && n >= 0 && i <= sizes[slot] && n <= sizes[slot] - i;
        }

        private static boolean isSlot(int slot) {
            return slot >= 0 && slot < SLOTS;
        }

        private static long cutTo(int width, long v) {
            switch (width) {
                case 0:
                    return (byte) v;
                case 1:
                    return (short) v;
                case 2:
                    return (int) v;
                default:
                    return v;
            }
        }
    }
}
