import java.math.BigInteger;
import java.util.ArrayList;
import java.util.Comparator;
import java.util.List;
import java.util.function.IntPredicate;
import java.util.function.IntToLongFunction;
import java.util.stream.Collectors;
import java.util.stream.IntStream;

/** The document once more, as slow and as plain as can be, to hold the class against. */
public final class Model {
    static final class Told {
        int minutes, late, peace, rain, lines;
        int[] need = new int[2];
        List<int[]> trains = new ArrayList<>();
        List<int[]> teas = new ArrayList<>(), asks = new ArrayList<>(), rules = new ArrayList<>();
        List<Integer> spies = new ArrayList<>();
        List<int[]> changes = new ArrayList<>();

        Told copy() {
            Told t = new Told();
            t.minutes = minutes; t.late = late; t.peace = peace; t.rain = rain; t.lines = lines;
            t.need = need.clone();
            for (int[] train : trains) t.trains.add(train.clone());
            t.teas.addAll(teas); t.asks.addAll(asks); t.rules.addAll(rules); t.spies.addAll(spies);
            t.changes.addAll(changes);
            return t;
        }
    }

    private static final class Fault extends RuntimeException {
        private static final long serialVersionUID = 1;
        final int what, place;
        Fault(int what, int place) { super("fault"); this.what = what; this.place = place; }
    }

    private final StringBuilder tape = new StringBuilder();
    private Told w;
    private int fault = 0, place = -1;
    private final Told[] images = new Told[3];
    private final boolean[] kept = new boolean[3];
    private final long[][] rows = new long[4][];
    private final int[] widths = new int[4];

    // ---- the TAPE and its text

    public int feed(int a, int b, int c, int d, int e) {
        if (tape.length() + 20 > 1200) return -1;
        for (int n : new int[] {a, b, c, d, e})
            for (int i = 3; i >= 0; i--) tape.append((char) (n >>> 8 * i & 255));
        return tape.length();
    }

    public int end(int n) {
        if (n < 0 || n > tape.length()) return -1;
        tape.setLength(n);
        return n;
    }

    private record Token(String text, int place) {
        boolean isNumber() { return text.matches("[0-9]+"); }
    }

    private static List<Token> tokens(String text) {
        List<Token> out = new ArrayList<>();
        for (int i = 0; i < text.length();) {
            if (text.charAt(i) == ' ' || text.charAt(i) == '\n') { i++; continue; }
            int j = i + 1;
            while (j < text.length() && (text.substring(i, j + 1).matches("[a-z]+")
                    || text.substring(i, j + 1).matches("[0-9]+"))) j++;
            out.add(new Token(text.substring(i, j), i));
            i = j;
        }
        out.add(new Token("", text.length()));
        return out;
    }

    private List<Token> left;

    private Token take() { return left.size() > 1 ? left.remove(0) : left.get(0); }

    private void word(String word) {
        Token t = take();
        if (!t.text.equals(word)) throw new Fault(1, t.place);
    }

    private int number(int low, int high) {
        Token t = take();
        if (!t.isNumber()) throw new Fault(1, t.place);
        BigInteger n = new BigInteger(t.text);
        if (n.compareTo(BigInteger.valueOf(low)) < 0 || n.compareTo(BigInteger.valueOf(high)) > 0) throw new Fault(2, t.place);
        return n.intValue();
    }

    private static void room(List<?> list, int most, Token at) {
        if (list.size() >= most) throw new Fault(3, at.place);
    }

    private Told parse(String text) {
        left = tokens(text);
        Told t = new Told();
        while (!left.get(0).text.isEmpty()) {
            Token at = take();
            if ((t.lines == 0) != at.text.equals("war")) throw new Fault(1, at.place);
            switch (at.text) {
                case "war" -> {
                    word("minutes"); t.minutes = number(1, 60);
                    word("late"); t.late = number(0, t.minutes - 1);
                    word("peace"); t.peace = number(0, 60);
                    word("rain"); t.rain = number(0, 100);
                }
                case "need" -> { int side = number(0, 1); t.need[side] = number(0, 999); }
                case "train" -> {
                    room(t.trains, 9, at);
                    int[] r = new int[6];
                    r[0] = number(0, 1); word("men"); r[1] = number(1, 99); word("due"); r[2] = number(0, 59);
                    word("odds"); r[3] = number(0, 100); word("by"); r[4] = number(1, 30); word("price"); r[5] = number(0, 999);
                    t.trains.add(r);
                }
                case "tea", "rule" -> {
                    List<int[]> list = at.text.equals("tea") ? t.teas : t.rules;
                    room(list, 4, at);
                    int a = number(0, 59); word("to"); list.add(new int[] {a, number(a, 59)});
                }
                case "cannon" -> {
                    room(t.asks, 8, at);
                    int[] r = new int[4];
                    r[0] = number(0, 1); word("at"); r[1] = number(0, 59); word("for"); r[2] = number(1, 20); word("worth"); r[3] = number(1, 99);
                    t.asks.add(r);
                }
                case "spy" -> {
                    room(t.spies, 5, at);
                    word("knows");
                    int set = 1 << number(0, t.trains.size() - 1);
                    while (left.get(0).isNumber()) set |= 1 << number(0, t.trains.size() - 1);
                    t.spies.add(set);
                }
                default -> throw new Fault(1, at.place);
            }
            word(";");
            t.lines++;
        }
        return t;
    }

    public int war() {
        String text = tape.toString();
        tape.setLength(0);
        fault = 0;
        place = -1;
        try {
            Told t = parse(text);
            w = t.lines == 0 ? null : t;
            return t.lines;
        } catch (Fault f) {
            fault = f.what;
            place = f.place;
            return -4;
        }
    }

    public int fault(int what) { return what == 0 ? fault : what == 1 ? place : -1; }

    // ---- what was told

    private static int pick(List<int[]> list, int i, int what) {
        return i < 0 || i >= list.size() || what < 0 || what >= list.get(i).length ? -2 : list.get(i)[what];
    }

    public int train(int train, int what) { return w == null ? -2 : pick(w.trains, train, what); }
    public int need(int side) { return side(side) ? w.need[side] : -2; }
    public int tea(int minute) { return w == null || minute < 0 || minute >= w.minutes ? -2 : isTea(minute) ? 1 : 0; }
    public int cannon(int ask, int what) { return w == null ? -2 : pick(w.asks, ask, what); }
    public int rule(int rule, int what) { return w == null ? -2 : pick(w.rules, rule, what); }
    public int spy(int spy) { return w == null || spy < 0 || spy >= w.spies.size() ? -2 : w.spies.get(spy); }

    private boolean side(int side) { return w != null && (side == 0 || side == 1); }
    private boolean set(int set) { return w != null && set >= 0 && set < sets(); }
    private int sets() { return 1 << w.trains.size(); }
    private boolean isTea(int minute) { return w.teas.stream().anyMatch(t -> t[0] <= minute && minute <= t[1]); }
    private static boolean in(int set, int i) { return (set & 1 << i) != 0; }
    private static boolean subset(int a, int b) { return (a | b) == b; }
    private IntStream allTrains() { return IntStream.range(0, w.trains.size()); }
    private IntStream allSets() { return IntStream.range(0, sets()); }
    private int bits(IntPredicate p) { return allTrains().filter(p).map(t -> 1 << t).sum(); }
    private int own(int side) { return bits(t -> w.trains.get(t)[0] == side); }
    private int priced(int set) { return allTrains().filter(t -> in(set, t)).map(t -> w.trains.get(t)[5]).sum(); }

    // ---- the FRONT

    private int comesAt(int t, int delays) { return w.trains.get(t)[2] + (in(delays, t) ? w.trains.get(t)[4] : 0); }

    private int there(int side, int minute, int delays, int sent) {
        return allTrains().filter(t -> in(sent, t) && w.trains.get(t)[0] == side && comesAt(t, delays) <= minute)
                .map(t -> w.trains.get(t)[1]).sum();
    }

    private int there(int side, int minute, int delays) { return there(side, minute, delays, sets() - 1); }

    private int frontOf(int n, int delays) {
        int front = 0;
        for (int m = 0; m < n; m++)
            if (!isTea(m)) front += Integer.signum(Integer.compare(there(0, m, delays), there(1, m, delays)));
        return front;
    }

    private int good(int side, int n, int delays) { return (side == 0 ? 1 : -1) * frontOf(n, delays); }
    private int goodEnd(int side, int delays) { return good(side, w.minutes, delays); }
    private boolean isLate(int side, int delays) { return there(side, w.late, delays) < w.need[side]; }

    private int winner(int delays) {
        if (isLate(0, delays) != isLate(1, delays)) return isLate(0, delays) ? 1 : 0;
        int f = frontOf(w.minutes, delays);
        return f == 0 ? -1 : f > 0 ? 0 : 1;
    }

    public int men(int side, int minute, int delays) {
        return side(side) && minute >= 0 && minute <= 99 && set(delays) ? there(side, minute, delays) : -2;
    }
    public int front(int n, int delays) { return set(delays) && n >= 0 && n <= w.minutes ? frontOf(n, delays) : -1000; }
    public int late(int delays) { return set(delays) ? (isLate(0, delays) ? 1 : 0) + (isLate(1, delays) ? 2 : 0) : -2; }
    public int wins(int delays) { return set(delays) ? winner(delays) : -2; }

    public int peak(int side, int delays) {
        if (!side(side) || !set(delays)) return -2;
        int most = IntStream.rangeClosed(0, w.minutes).map(n -> good(side, n, delays)).max().getAsInt();
        return IntStream.rangeClosed(0, w.minutes).filter(n -> good(side, n, delays) == most).findFirst().getAsInt();
    }

    public int swings(int delays) {
        if (!set(delays)) return -2;
        String signs = IntStream.rangeClosed(0, w.minutes).map(n -> frontOf(n, delays)).filter(f -> f != 0)
                .mapToObj(f -> f > 0 ? "+" : "-").collect(Collectors.joining());
        int swings = 0;
        for (int i = 1; i < signs.length(); i++) if (signs.charAt(i) != signs.charAt(i - 1)) swings++;
        return swings;
    }

    public int worst(int side) { return side(side) ? allSets().map(s -> goodEnd(side, s)).min().getAsInt() : -1000; }

    public int by(int side) {
        if (!side(side)) return -2;
        int worst = worst(side);
        return allSets().boxed().filter(s -> goodEnd(side, s) == worst)
                .min(Comparator.<Integer>comparingInt(Integer::bitCount).thenComparingInt(s -> s)).get();
    }

    public int ways(int side) { return side(side) ? (int) allSets().filter(s -> winner(s) == side).count() : -2; }

    public int idle() {
        if (w == null) return -2;
        int[] won = allSets().map(this::winner).toArray();
        return bits(t -> allSets().allMatch(s -> won[s] == won[s ^ 1 << t]));
    }

    public int since(int side, int delays) {
        if (!side(side) || !set(delays)) return -2;
        return IntStream.rangeClosed(0, 99).filter(m -> there(side, m, delays) >= w.need[side]).findFirst().orElse(-1);
    }

    public int comes(int minute, int delays) {
        return minute >= 0 && minute <= 99 && set(delays) ? bits(t -> comesAt(t, delays) == minute) : -2;
    }

    public long even(int delays) {
        if (!set(delays)) return -2;
        return IntStream.range(0, w.minutes).filter(m -> there(0, m, delays) == there(1, m, delays)).mapToLong(m -> 1L << m).sum();
    }

    // ---- chances

    private static long told(BigInteger above, BigInteger below, int what) {
        BigInteger g = above.gcd(below);
        return (what == 0 ? above : below).divide(g).longValueExact();
    }

    private static BigInteger big(long n) { return BigInteger.valueOf(n); }

    /** In parts of 100 to the ninth, or so many as there are TRAINS. */
    private BigInteger parts(IntPredicate wanted) {
        BigInteger sum = BigInteger.ZERO;
        for (int s = 0; s < sets(); s++) {
            if (!wanted.test(s)) continue;
            BigInteger p = BigInteger.ONE;
            for (int t = 0; t < w.trains.size(); t++) p = p.multiply(big(in(s, t) ? w.trains.get(t)[3] : 100 - w.trains.get(t)[3]));
            sum = sum.add(p);
        }
        return sum;
    }

    private BigInteger all() { return big(100).pow(w.trains.size()); }

    public long enough(int side, int what) {
        return side(side) && (what == 0 || what == 1) ? told(parts(s -> !isLate(side, s)), all(), what) : -2;
    }

    public long chance(int side, int what) {
        return side(side) && (what == 0 || what == 1) ? told(parts(s -> winner(s) == side), all(), what) : -2;
    }

    // ---- prices

    private BigInteger enoughBy(int side, int sent) { return parts(s -> there(side, w.late, s, sent) >= w.need[side]); }

    private boolean sure(int side, int sent) { return enoughBy(side, sent).equals(all()); }

    private boolean likely(int side, int sent, int n) {
        return enoughBy(side, sent).multiply(big(100)).compareTo(all().multiply(big(n))) >= 0;
    }

    private List<Integer> cheapest(int among, IntPredicate serves) {
        List<Integer> fit = allSets().filter(s -> subset(s, among)).filter(serves).boxed().collect(Collectors.toList());
        int least = fit.stream().mapToInt(this::priced).min().orElse(-1);
        return List.of(least, fit.stream().filter(s -> priced(s) == least).min(Comparator.naturalOrder()).orElse(-1));
    }

    public int send(int side) { return side(side) ? cheapest(own(side), s -> sure(side, s)).get(0) : -2; }
    public int sent(int side) { return side(side) ? cheapest(own(side), s -> sure(side, s)).get(1) : -2; }

    public int fewest(int side) {
        if (!side(side)) return -2;
        return allSets().filter(s -> subset(s, own(side)) && sure(side, s)).map(Integer::bitCount).min().orElse(-1);
    }

    private List<Integer> risks(int side, int n) { return cheapest(own(side), s -> likely(side, s, n)); }
    public int risk(int side, int n) { return side(side) && n >= 0 && n <= 100 ? risks(side, n).get(0) : -2; }
    public int risked(int side, int n) { return side(side) && n >= 0 && n <= 100 ? risks(side, n).get(1) : -2; }

    private List<Integer> bribes(int side, int among) { return cheapest(among, s -> isLate(side, s)); }
    public int bribe(int side) { return side(side) ? bribes(side, own(side)).get(0) : -2; }
    public int bribed(int side) { return side(side) ? bribes(side, own(side)).get(1) : -2; }

    private long bribeWithout(int side, int train) {
        int price = bribes(side, own(side) & ~(1 << train)).get(0);
        return price == -1 ? Long.MAX_VALUE : price;
    }

    public int guard(int side) {
        if (!side(side)) return -2;
        long now = bribe(side) == -1 ? Long.MAX_VALUE : bribe(side);
        long most = allTrains().filter(t -> in(own(side), t)).mapToLong(t -> bribeWithout(side, t)).max().orElse(-1);
        if (most <= now) return -1;
        return allTrains().filter(t -> in(own(side), t) && bribeWithout(side, t) == most).findFirst().getAsInt();
    }

    public int guarded(int side) {
        if (!side(side) || guard(side) == -1) return -2;
        return bribes(side, own(side) & ~(1 << guard(side))).get(0);
    }

    private boolean purse(int side, int n) { return side(side) && n >= 0 && n <= 999; }
    private IntStream bought(int side, int n) { return allSets().filter(s -> subset(s, own(side)) && priced(s) <= n); }

    public int spoil(int side, int n) { return purse(side, n) ? bought(side, n).map(s -> goodEnd(side, s)).min().getAsInt() : -1000; }

    public int spoils(int side, int n) {
        if (!purse(side, n)) return -2;
        int least = spoil(side, n);
        return bought(side, n).filter(s -> goodEnd(side, s) == least).min().getAsInt();
    }

    public int answer(int side, int n) {
        if (!purse(side, n)) return -1000;
        return bought(side, n).map(a -> bought(1 - side, n).map(b -> goodEnd(side, a | b)).max().getAsInt()).min().getAsInt();
    }

    public int rests(int n) {
        if (!purse(0, n)) return -2;
        int[] end = allSets().map(s -> goodEnd(0, s)).toArray();
        int rests = 0;
        for (int a : bought(0, n).toArray())
            for (int b : bought(1, n).toArray())
                if (bought(1, n).allMatch(c -> end[a | c] <= end[a | b]) && bought(0, n).allMatch(c -> end[c | b] >= end[a | b])) rests++;
        return rests;
    }

    // ---- PLACES

    private static List<int[]> ways3(int n) {
        List<int[]> out = new ArrayList<>();
        for (int a = 0; a <= n; a++) for (int b = 0; b <= n; b++) for (int c = 0; c <= n; c++)
            if (a + b + c == n) out.add(new int[] {a, b, c});
        return out;
    }

    private static int value(int[] mine, int[] theirs) {
        int v = 0;
        for (int i = 0; i < 3; i++) v += mine[i] > theirs[i] ? 1 : mine[i] < theirs[i] ? -1 : 0;
        return v;
    }

    private static int sureOf(int[] way, int m) { return ways3(m).stream().mapToInt(r -> value(way, r)).min().getAsInt(); }
    private static boolean hosts(int n, int m) { return n >= 0 && n <= 9 && m >= 0 && m <= 9; }

    public int hold(int n, int m) { return hosts(n, m) ? ways3(n).stream().mapToInt(x -> sureOf(x, m)).max().getAsInt() : -1000; }

    private int[] firstWay(int n, int m) {
        int hold = hold(n, m);
        return ways3(n).stream().filter(x -> sureOf(x, m) == hold).findFirst().get();
    }

    public int holds(int n, int m, int i) { return hosts(n, m) && i >= 0 && i <= 2 ? firstWay(n, m)[i] : -2; }

    public int reply(int n, int m, int i) {
        if (!hosts(n, m) || i < 0 || i > 2) return -2;
        int[] way = firstWay(n, m);
        int hold = hold(n, m);
        return ways3(m).stream().filter(r -> value(way, r) <= hold).findFirst().get()[i];
    }

    // ---- peace

    private boolean holdsBy(int minute, int reading) {
        for (int r = 0; r < w.rules.size(); r++) {
            int low = w.rules.get(r)[0] + (in(reading, 2 * r) ? 0 : 1);
            int high = w.rules.get(r)[1] - (in(reading, 2 * r + 1) ? 0 : 1);
            if (low <= minute && minute <= high) return false;
        }
        return true;
    }

    private int allReadings() { return 1 << 2 * w.rules.size(); }
    private boolean peaceful(int minute) { return w != null && minute >= 0 && minute <= 59; }
    private int readingsOf(int minute) { return (int) IntStream.range(0, allReadings()).filter(r -> holdsBy(minute, r)).count(); }
    public int readings(int minute) { return peaceful(minute) ? readingsOf(minute) : -2; }

    public long loopholes() {
        if (w == null) return -2;
        return IntStream.range(0, 60).filter(m -> readingsOf(m) > 0 && readingsOf(m) < allReadings()).mapToLong(m -> 1L << m).sum();
    }

    private List<Integer> closing(int minute) {
        return IntStream.range(0, allReadings())
                .filter(told -> IntStream.range(0, allReadings()).filter(r -> subset(told, r)).noneMatch(r -> holdsBy(minute, r)))
                .boxed().sorted(Comparator.<Integer>comparingInt(Integer::bitCount).thenComparingInt(b -> b)).collect(Collectors.toList());
    }

    public int close(int minute) { return !peaceful(minute) ? -2 : closing(minute).isEmpty() ? -1 : Integer.bitCount(closing(minute).get(0)); }
    public int closed(int minute) { return !peaceful(minute) ? -2 : closing(minute).isEmpty() ? -1 : closing(minute).get(0); }

    public int signs() {
        return w == null ? -2 : IntStream.range(0, 60).filter(m -> readingsOf(m) == allReadings()).findFirst().orElse(-1);
    }

    private boolean isTreaty(int n, int delays, int peace) {
        for (int side = 0; side < 2; side++)
            for (int more = n + 1; more <= w.minutes; more++)
                if (good(side, n, delays) + peace < good(side, more, delays)) return false;
        return true;
    }

    public long treaties(int delays) {
        if (!set(delays)) return -2;
        return IntStream.rangeClosed(1, w.minutes).filter(n -> isTreaty(n, delays, w.peace)).mapToLong(n -> 1L << n - 1).sum();
    }

    public int price(int n, int delays) {
        if (!set(delays) || n < 1 || n > w.minutes) return -2;
        return IntStream.rangeClosed(0, 60).filter(p -> isTreaty(n, delays, p)).findFirst().orElse(-1);
    }

    // ---- SPIES

    private List<Integer> fit(int early) {
        return IntStream.range(0, w.spies.size()).filter(s -> subset(early, w.spies.get(s))).boxed().collect(Collectors.toList());
    }

    private int left(int early, int t) {
        int yes = (int) fit(early).stream().filter(s -> in(w.spies.get(s), t)).count();
        return Math.max(yes, fit(early).size() - yes);
    }

    public int spies(int early) { return set(early) ? fit(early).stream().mapToInt(s -> 1 << s).sum() : -2; }

    public int watch(int early) {
        if (!set(early)) return -2;
        int least = allTrains().filter(t -> !in(early, t)).map(t -> left(early, t)).min().orElse(99);
        if (least >= fit(early).size()) return -1;
        return allTrains().filter(t -> !in(early, t) && left(early, t) == least).findFirst().getAsInt();
    }

    public int leaves(int early) { return !set(early) ? -2 : watch(early) == -1 ? fit(early).size() : left(early, watch(early)); }

    public int known(int early, int what) {
        if (!set(early) || what < 0 || what > 1 ) return -2;
        if (fit(early).isEmpty()) return 0;
        return bits(t -> what == 0 ? fit(early).stream().allMatch(s -> in(w.spies.get(s), t))
                : fit(early).stream().anyMatch(s -> in(w.spies.get(s), t)));
    }

    // ---- the cannon

    private boolean grantable(int set, boolean halves) {
        List<int[]> asks = IntStream.range(0, w.asks.size()).filter(a -> in(set, a)).mapToObj(w.asks::get)
                .sorted(Comparator.comparingInt(a -> a[1])).collect(Collectors.toList());
        for (int minute = 0; minute < 100; minute++) {
            int m = minute;
            if (asks.stream().filter(a -> a[1] <= m && m < a[1] + a[2]).count() > 1) return false;
        }
        for (int i = 1; i < asks.size(); i++) if (halves && asks.get(i)[0] == asks.get(i - 1)[0]) return false;
        return true;
    }

    private int worth(int set) { return IntStream.range(0, w.asks.size()).filter(a -> in(set, a)).map(a -> w.asks.get(a)[3]).sum(); }
    private int most(boolean halves) {
        return IntStream.range(0, 1 << w.asks.size()).filter(s -> grantable(s, halves)).map(this::worth).max().getAsInt();
    }
    private int which(boolean halves) {
        int most = most(halves);
        return IntStream.range(0, 1 << w.asks.size()).filter(s -> worth(s) == most && grantable(s, halves)).min().getAsInt();
    }

    public int grant() { return w == null ? -2 : most(false); }
    public int granted() { return w == null ? -2 : which(false); }
    public int halves() { return w == null ? -2 : most(true); }
    public int halved() { return w == null ? -2 : which(true); }

    // ---- Wednesdays

    public long dry(int n, int k, int what) {
        if (w == null || n < 1 || n > 9 || k < 0 || k > n || what < 0 || what > 1) return -2;
        BigInteger sum = BigInteger.ZERO;
        for (int days = 0; days < 1 << n; days++)
            if (Integer.bitCount(days) == k) sum = sum.add(big(100 - w.rain).pow(k).multiply(big(w.rain).pow(n - k)));
        return told(sum, big(100).pow(n), what);
    }

    public int insist(int k) {
        if (w == null || k < 0 || k > 100) return -2;
        long left = 1_000_000;
        for (int n = 1; n <= 60; n++) {
            left = left * w.rain / 100;
            if (left <= 10_000L * (100 - k)) return n;
        }
        return -1;
    }

    // ---- what is told anew

    public int tell(int train, int what, int n) {
        if (w == null || train < 0 || train >= w.trains.size() || what < 0 || what > 2) return -2;
        if (n < 0 || n > new int[] {59, 100, 999}[what]) return -2;
        if (w.changes.size() >= 60) return -5;
        int column = new int[] {2, 3, 5}[what];
        int old = w.trains.get(train)[column];
        w.changes.add(new int[] {train, column, old});
        w.trains.get(train)[column] = n;
        return old;
    }

    public int needs(int side, int n) {
        if (!side(side) || n < 0 || n > 999) return -2;
        if (w.changes.size() >= 60) return -5;
        int old = w.need[side];
        w.changes.add(new int[] {side, -1, old});
        w.need[side] = n;
        return old;
    }

    public int undo() {
        if (w == null) return -2;
        if (w.changes.isEmpty()) return -5;
        int[] c = w.changes.remove(w.changes.size() - 1);
        if (c[1] == -1) w.need[c[0]] = c[2]; else w.trains.get(c[0])[c[1]] = c[2];
        return w.changes.size();
    }

    // ---- WARS drawn

    private int delaysOf(long seed) {
        BigInteger x = big(seed);
        int delays = 0;
        for (int i = -1; i < w.trains.size(); i++) {
            x = x.multiply(big(1103515245)).add(big(12345)).mod(big(2147483648L));
            int d = x.divide(big(65536)).mod(big(100)).intValue();
            if (i == -1 && d < w.rain) return -1;
            if (i >= 0 && d < w.trains.get(i)[3]) delays |= 1 << i;
        }
        return delays;
    }

    private boolean seed(int seed) { return w != null && seed >= 0 && seed <= 2000000000; }

    public int drawn(int seed, int what) {
        if (!seed(seed) || what < 0 || what > 2) return -2;
        int delays = delaysOf(seed);
        return what == 0 ? delays : what == 1 ? delays == -1 ? -1 : winner(delays) : delays == -1 ? 0 : frontOf(w.minutes, delays);
    }

    public int luck(int seed, int n, int side) {
        if (!seed(seed) || n < 1 || n > 20 || !side(side)) return -2;
        IntToLongFunction of = i -> (long) seed + i;
        return (int) IntStream.range(0, n).filter(i -> delaysOf(of.applyAsLong(i)) != -1 && winner(delaysOf(of.applyAsLong(i))) == side).count();
    }

    public int count(int what) {
        Told t = w == null ? new Told() : w;
        int rowed = 0;
        for (long[] row : rows) if (row != null) rowed++;
        int[] all = {t.minutes, t.late, t.peace, t.rain, t.trains.size(), t.teas.size(), t.asks.size(), t.rules.size(), t.spies.size(),
            t.lines, tape.length(), t.changes.size(), rowed};
        return what < 0 || what >= all.length ? -1 : all[what];
    }

    // ---- IMAGES and SLOTS

    public int image(int k) {
        if (k < 0 || k > 2) return -2;
        images[k] = w == null ? null : w.copy();
        kept[k] = true;
        return 0;
    }

    public int back(int k) {
        if (k < 0 || k > 2) return -2;
        if (!kept[k]) return -6;
        w = images[k] == null ? null : images[k].copy();
        return 0;
    }

    public int row(int slot, int width, int n) {
        if (slot < 0 || slot > 3 || width < 0 || width > 3 || n > 60) return -2;
        if (n < 0) return -3;
        rows[slot] = new long[n];
        widths[slot] = width;
        return 0;
    }

    public int write(int slot, int i, long v) {
        if (slot < 0 || slot > 3) return -2;
        if (rows[slot] == null) return -6;
        if (i < 0 || i >= rows[slot].length) return -7;
        rows[slot][i] = v;
        return 0;
    }

    public int paste(int slot, int i, int to, int k, int n) {
        if (slot < 0 || slot > 3 || to < 0 || to > 3) return -2;
        if (rows[slot] == null || rows[to] == null) return -6;
        if (widths[slot] != widths[to]) return -8;
        if (i < 0 || k < 0 || n < 0 || (long) i + n > rows[slot].length || (long) k + n > rows[to].length) return -7;
        return 0;
    }
}
