import java.lang.reflect.Method;
import java.util.ArrayList;
import java.util.List;
import java.util.Random;

/** Runs of calls, drawn at random from fixed seeds, on the class and on the model: each answer is the same. */
public final class CrossTest {
    private static final int CALLS = 512;

    /** Each method with the kinds of its numbers, a sign each: see number(). */
    private static final String[] CALLABLE = {
        "fault w", "train tw", "need s", "tea m", "cannon aw", "rule rw", "spy y", "men smd", "front nd", "late d", "wins d", "peak sd",
        "swings d", "worst s", "by s", "ways s", "idle", "enough sb", "chance sb", "send s", "sent s", "fewest s", "risk sh", "risked sh",
        "bribe s", "bribed s", "guard s", "guarded s", "spoil sp", "spoils sp", "answer sp", "rests p", "since sd", "comes md", "even d",
        "hold kk", "holds kkb", "reply kkb", "readings m", "loopholes", "close m", "closed m", "signs", "treaties d", "price nd", "spies d",
        "watch d", "leaves d", "known db", "grant", "granted", "halves", "halved", "dry kkb", "insist h", "tell tbv", "needs sv", "undo",
        "drawn eb", "luck ecs", "count w", "image i", "back i", "row iic", "write icv", "paste icicc", "end z", "war",
    };

    private final Random random;
    private final Check check;
    private final WarByHours x = new WarByHours();
    private final Model model = new Model();
    private final StringBuilder log = new StringBuilder();
    private final int most;
    private String text = "";
    private int calls;

    private CrossTest(long seed, int most, Check check) {
        random = new Random(seed);
        this.most = most;
        this.check = check;
    }

    public static void main(String[] args) throws Exception {
        Check check = new Check("CrossTest");
        for (int seed = 0; seed < 220; seed++) {
            new CrossTest(seed, seed % 5 == 4 ? 6 : 4, check).run();
        }
        for (int seed = 1000; seed < 1004; seed++) {
            new CrossTest(seed, 9, check).runWhole();
        }
        check.finish();
    }

    private void run() throws Exception {
        while (calls < CALLS - 70) {
            if (random.nextInt(4) == 0) {
                feedText(random.nextInt(3) == 0 ? spoiled(text()) : text());
            }
            for (int i = 0; i < 60 && calls < CALLS; i++) {
                callAny();
            }
        }
    }

    /** A WAR of nine TRAINS, and each method a few times. */
    private void runWhole() throws Exception {
        feedText(text());
        for (String callable : CALLABLE) {
            if (!callable.startsWith("war") && !callable.startsWith("back")) {
                for (int i = 0; i < 2; i++) {
                    call(callable);
                }
            }
        }
    }

    private void callAny() throws Exception {
        call(CALLABLE[random.nextInt(CALLABLE.length - (random.nextInt(10) == 0 ? 0 : 1))]);
    }

    private void feedText(String told) throws Exception {
        text = told;
        if (random.nextInt(3) != 0) {
            same("end", new Object[] {0});
        }
        for (int from = 0; from < told.length(); from += 20) {
            int[] n = Texts.numbers(told, from);
            same("feed", new Object[] {n[0], n[1], n[2], n[3], n[4]});
        }
        same("end", new Object[] {told.length()});
        same("war", new Object[] {});
        same("fault", new Object[] {0});
        same("fault", new Object[] {1});
    }

    private void call(String callable) throws Exception {
        String[] parts = callable.split(" ");
        String kinds = parts.length > 1 ? parts[1] : "";
        Object[] args = new Object[kinds.length()];
        for (int i = 0; i < args.length; i++) {
            args[i] = number(kinds.charAt(i));
        }
        if (parts[0].equals("write")) {
            args[2] = (long) (Integer) args[2] << random.nextInt(50);
        }
        same(parts[0], args);
    }

    private Object number(char kind) {
        if (random.nextInt(60) == 0) {
            return new int[] {Integer.MIN_VALUE, Integer.MAX_VALUE, -1, 1 << 16, 512}[random.nextInt(5)];
        }
        switch (kind) {
            case 's': return random.nextInt(20) == 0 ? 2 : random.nextInt(2);
            case 'b': return random.nextInt(4) - (random.nextInt(9) == 0 ? 1 : 0);
            case 't': return random.nextInt(most + 1);
            case 'a': return random.nextInt(9);
            case 'r': case 'i': return random.nextInt(5) - (random.nextInt(9) == 0 ? 1 : 0);
            case 'y': return random.nextInt(6);
            case 'w': return random.nextInt(15) - 1;
            case 'm': return random.nextInt(4) == 0 ? random.nextInt(103) - 1 : random.nextInt(20);
            case 'n': return random.nextInt(4) == 0 ? random.nextInt(63) - 1 : random.nextInt(12);
            case 'd': return random.nextInt(1 << Math.max(1, model.count(4))) + (random.nextInt(30) == 0 ? 1 << model.count(4) : 0);
            case 'h': return random.nextInt(3) == 0 ? 100 : random.nextInt(103) - 1;
            case 'p': return random.nextInt(4) == 0 ? random.nextInt(1003) - 1 : random.nextInt(30);
            case 'k': return random.nextInt(11) - (random.nextInt(9) == 0 ? 1 : 0);
            case 'c': return random.nextInt(5) == 0 ? random.nextInt(63) - 1 : random.nextInt(9) - 1;
            case 'v': return random.nextInt(5) == 0 ? random.nextInt(1003) - 1 : random.nextInt(62) - 1;
            case 'e': return random.nextInt(9) == 0 ? 2000000000 - random.nextInt(10) + random.nextInt(4) : random.nextInt(1000);
            default: return random.nextInt(300) - 1;
        }
    }

    private void same(String name, Object[] args) throws Exception {
        Class<?>[] types = new Class<?>[args.length];
        List<String> shown = new ArrayList<>();
        for (int i = 0; i < args.length; i++) {
            types[i] = args[i] instanceof Long ? long.class : int.class;
            shown.add(args[i].toString());
        }
        Method mine = WarByHours.class.getMethod(name, types);
        Method due = Model.class.getMethod(name, types);
        long got = ((Number) mine.invoke(x, args)).longValue();
        long want = ((Number) due.invoke(model, args)).longValue();
        String call = name + "(" + String.join(", ", shown) + ")";
        calls++;
        log.append(call).append(' ');
        check.due(got == want ? call : "behind [" + text + "] and " + log + "..", got, want);
    }

    private int in(int low, int high) {
        return low + random.nextInt(high - low + 1);
    }

    private String text() {
        int minutes = random.nextInt(4) == 0 ? in(1, 60) : in(3, 12);
        StringBuilder t = new StringBuilder();
        t.append("war minutes ").append(minutes).append(" late ").append(in(0, minutes - 1)).append(" peace ")
            .append(random.nextInt(3) == 0 ? in(0, 60) : in(0, 4)).append(" rain ").append(in(0, 10) * 10).append(';');
        int trains = random.nextInt(8) == 0 ? 0 : most == 9 ? 9 : in(1, most);
        for (int i = 0; i < trains; i++) {
            t.append(gap()).append("train ").append(in(0, 1)).append(" men ").append(random.nextInt(4) == 0 ? in(1, 99) : in(1, 6))
                .append(" due ").append(random.nextInt(5) == 0 ? in(0, 59) : in(0, minutes - 1)).append(" odds ")
                .append(random.nextInt(4) == 0 ? in(0, 1) * 100 : in(0, 100)).append(" by ")
                .append(random.nextInt(4) == 0 ? in(1, 30) : in(1, 5)).append(" price ").append(random.nextInt(5) == 0 ? in(0, 999) : in(0, 9))
                .append(';');
        }
        for (int i = in(0, 9); i > 0; i--) {
            t.append(gap()).append(line(trains, minutes));
        }
        return t.toString();
    }

    private String gap() {
        return new String[] {"", " ", "\n", "  \n "}[random.nextInt(9) == 0 ? in(1, 3) : 0];
    }

    private String line(int trains, int minutes) {
        int from = random.nextInt(3) == 0 ? in(0, 59) : in(0, minutes - 1);
        int to = random.nextInt(3) == 0 ? in(from, 59) : Math.min(59, from + in(0, 3));
        switch (in(0, 4)) {
            case 0: return "need " + in(0, 1) + " " + in(0, 15) + ";";
            case 1: return "tea " + from + " to " + to + ";";
            case 2: return "cannon " + in(0, 1) + " at " + in(0, 12) + " for " + in(1, 5) + " worth " + in(1, 9) + ";";
            case 3: return "rule " + from + " to " + to + ";";
            default:
                if (trains == 0) {
                    return "need 0 " + in(0, 999) + ";";
                }
                StringBuilder spy = new StringBuilder("spy knows");
                for (int i = in(1, 4); i > 0; i--) {
                    spy.append(' ').append(in(0, trains - 1));
                }
                return spy.append(';').toString();
        }
    }

    /** A sign or a token is another one, is gone, or stands twice; or the end is. */
    private String spoiled(String told) {
        int at = random.nextInt(told.length());
        switch (in(0, 6)) {
            case 0: return told.substring(0, at);
            case 1: return told.substring(0, at) + told.substring(at + 1);
            case 2: return told.substring(0, at) + "a0; \n9z\tA\u0000\u00e9".charAt(random.nextInt(11)) + told.substring(at + 1);
            case 3: return told.substring(0, at) + "a0; \n9z\tA\u0000\u00e9".charAt(random.nextInt(11)) + told.substring(at);
            case 4: return told.replaceFirst("[0-9]+;", new String[] {"61;", "1000;", "99999999999999999999;", "007;", ";"}[in(0, 4)]);
            case 5: return told + line(9, 5) + line(9, 5) + line(9, 5);
            default: return told + told.substring(told.indexOf(';') + 1) + told.substring(told.indexOf(';') + 1);
        }
    }
}
