import java.util.ArrayList;
import java.util.List;
import java.util.NoSuchElementException;
import java.util.Random;

/**
 * Long runs of random calls on SoulOffice and on Model: each answer has to be the same. The runs
 * are the same each time. With arguments: how many runs, the first one's seed, and by how many times
 * more ways (of most(), of appeals) the model is asked.
 */
public final class FuzzTest {
    private static final int CALLS = 400;
    private static int patience = 1;
    private final Random random;
    private final Texts texts;
    private final SoulOffice x = new SoulOffice();
    private final Model m = new Model();
    private final List<String> told = new ArrayList<>();
    private int fails = 0;

    private FuzzTest(long seed) {
        random = new Random(seed);
        texts = new Texts(random);
    }

    public static void main(String[] args) {
        int runs = args.length >= 2 ? Integer.parseInt(args[0]) : 400;
        long firstSeed = args.length >= 2 ? Long.parseLong(args[1]) : 1;
        patience = args.length == 3 ? Integer.parseInt(args[2]) : 1;
        int[] calls = new int[OPS];
        int[] some = new int[OPS];
        for (int run = 0; run < runs; run++) {
            FuzzTest test = new FuzzTest(firstSeed + run);
            test.run(calls, some);
            if (test.fails > 0) {
                System.out.println("the run of seed " + (firstSeed + run) + " is wrong");
                System.exit(1);
            }
        }
        for (int op = 0; op < OPS; op++) {
            if (runs >= 400 && some[op] == 0) {
                System.out.println("call " + op + " never answered anything but NONE, 0 or false");
                System.exit(1);
            }
        }
        System.out.println(runs + " runs are as the model tells");
    }

    private static final int OPS = 41;

    private void run(int[] calls, int[] some) {
        newOffice();
        int done = 0;
        while (done < CALLS && fails == 0) {
            int op = random.nextInt(OPS);
            if ((op == 2 || op == 39) && random.nextInt(4) != 0) {
                continue;
            }
            done++;
            calls[op]++;
            Object answer = call(op);
            if (!answer.equals(-1L) && !answer.equals(0L)) {
                some[op]++;
            }
        }
        if (fails > 0) {
            for (String t : told.subList(Math.max(0, told.size() - 60), told.size())) {
                System.out.println("  " + t);
            }
        }
    }

    private void newOffice() {
        feedText(texts.office());
        same("office()", x.office(), m.office());
        whatWasToldLast();
    }

    /** What another OFFICE, and an image put back, leave as it is. */
    private void whatWasToldLast() {
        same("fault()", x.fault(), m.fault());
        for (int s = -1; s <= 8; s++) {
            same("gives(" + s + ")", x.gives(s), m.gives(s));
        }
        for (int what = -1; what <= 4; what++) {
            same("first(" + what + ")", x.first(what), m.first(what));
            same("booked(" + what + ")", x.booked(what), m.booked(what));
        }
    }

    private void feedText(String text) {
        told.add("text " + text.replace("\n", "\\n"));
        for (int i = 0; i < text.length() || i == 0; i += 20) {
            int[] n = new int[5];
            for (int j = 0; j < 20; j++) {
                int b = i + j < text.length() ? text.charAt(i + j) & 255 : 0;
                n[j / 4] = n[j / 4] << 8 | b;
            }
            same("feed", x.feed(n[0], n[1], n[2], n[3], n[4]), m.feed(n));
        }
        same("end", x.end(text.length()), m.end(text.length()));
    }

    private Object same(String call, Object got, Object want) {
        told.add(call + " = " + got);
        if (!got.equals(want)) {
            fails++;
            told.add("    but the model tells " + want);
        }
        return got;
    }

    private Object same(String call, int got, int want) {
        return same(call, (Object) (long) got, (Object) (long) want);
    }

    private Object same(String call, boolean got, boolean want) {
        return same(call, (Object) (got ? 1L : 0L), (Object) (want ? 1L : 0L));
    }

    private int any(int n) {
        return random.nextInt(25) == 0 ? (random.nextInt(5) == 0 ? random.nextInt() : -2 + random.nextInt(14)) : random.nextInt(n);
    }

    private int anySoul() {
        return any(Math.max(1, x.count(1)));
    }

    private int anyKind() {
        return any(Math.max(1, x.count(0)));
    }

    private int anyDays() {
        return random.nextInt(10) == 0 ? -2 + random.nextInt(65) : 1 + random.nextInt(3);
    }

    private Object call(int op) {
        int s = anySoul();
        int k = anyKind();
        int t = anySoul();
        String at = "(" + s + ", " + k + ")";
        switch (op) {
            case 0: return same("feed", x.feed(s, k, t, op, -1), m.feed(s, k, t, op, -1));
            case 1: {
                int n = random.nextInt(3) > 0 ? 0 : any(60);
                return same("end(" + n + ")", x.end(n), m.end(n));
            }
            case 2: newOffice(); return (long) x.count(1);
            case 3: return same("fault()", x.fault(), m.fault());
            case 4: return kindCall(k, any(4));
            case 5: {
                int b = anyKind();
                return same("meets(" + k + ", " + b + ")", x.meets(k, b), m.meets(k, b));
            }
            case 6: return soulCall(s, any(8));
            case 7: return same("debt(" + s + ", " + t + ")", x.debt(s, t), m.debt(s, t));
            case 8: return nowCall(any(7));
            case 9: return same("why" + at, x.why(s, k), m.why(s, k));
            case 10: case 40: return same("give" + at, x.give(s, k), m.give(s, k));
            case 11: return daysCall();
            case 12: return clerkCall();
            case 13: return same("settled(" + s + ", " + t + ")", x.settled(s, t), m.settled(s, t));
            case 14: return same("undo()", x.undo(), m.undo());
            case 15: return mostCall();
            case 16: return same("gives(" + s + ")", x.gives(s), m.gives(s));
            case 17: {
                int i = random.nextInt(3) == 0 ? -1 : any(8);
                return same("hopeless(" + i + ")", x.hopeless(i), m.hopeless(i));
            }
            case 18: return netCall(s);
            case 19: return same("fewest()", x.fewest(), m.fewest());
            case 20: return same("groups()", x.groups(), m.groups());
            case 21: {
                feedText(texts.seen());
                return same("were(" + s + ", " + t + ")", x.were(s, t), m.were(s, t));
            }
            case 22: {
                int what = any(3);
                return same("first(" + what + ")", x.first(what), m.first(what));
            }
            case 23: return appealCall(s, k, false);
            case 24: return appealCall(s, k, true);
            default: return otherCall(op, s, k);
        }
    }

    private Object otherCall(int op, int s, int k) {
        switch (op) {
            case 25: return same("ends()", x.ends(), m.ends());
            case 26: {
                int n = anyDays();
                return same("later(" + n + ")", x.later(n), m.later(n));
            }
            case 27: return same("queue(" + k + ")", x.queue(k), m.queue(k));
            case 28: {
                int n = anyDays();
                int seed = random.nextInt();
                return same("drawn(" + n + ", " + seed + ")", x.drawn(n, seed), m.drawn(n, seed));
            }
            case 29: {
                int n = random.nextInt(20) == 0 ? -1 + random.nextInt(43) : 1 + random.nextInt(3);
                int seed = random.nextInt(20) == 0 ? Integer.MAX_VALUE : random.nextInt();
                return same("odds(" + n + ", " + seed + ")", x.odds(n, seed), m.odds(n, seed));
            }
            case 30: {
                int what = any(3);
                return same("greatest(" + what + ")", x.greatest(what), m.greatest(what));
            }
            case 31: case 32: return bookCall();
            case 33: {
                int what = any(4);
                return same("booked(" + what + ")", x.booked(what), m.booked(what));
            }
            case 34: case 35: {
                feedText(texts.sentence());
                Object answer = same("sentence()", x.sentence(), m.sentence());
                same("fault()", x.fault(), m.fault());
                return answer;
            }
            case 36: {
                int i = random.nextInt(2) == 0 ? -1 : any(4);
                return same("said(" + i + ")", x.said(i), m.said(i));
            }
            case 37: {
                int i = any(2);
                return same("image(" + i + ")", x.image(i), m.image(i));
            }
            case 38: {
                int i = any(2);
                Object answer = same("restore(" + i + ")", x.restore(i), m.restore(i));
                whatWasToldLast();
                return answer;
            }
            default: {
                int what = any(4);
                return same("count(" + what + ")", x.count(what), m.count(what));
            }
        }
    }

    private Object kindCall(int k, int what) {
        return same("kind(" + k + ", " + what + ")", x.kind(k, what), m.kind(k, what));
    }

    private Object soulCall(int s, int what) {
        Object got;
        Object want;
        try {
            got = (long) x.soul(s, what);
        } catch (NoSuchElementException e) {
            got = "throws";
        }
        try {
            want = (long) m.soul(s, what);
        } catch (NoSuchElementException e) {
            want = "throws";
        }
        return same("soul(" + s + ", " + what + ")", got, want);
    }

    private Object netCall(int s) {
        Object got;
        Object want;
        try {
            got = (long) x.net(s);
        } catch (NoSuchElementException e) {
            got = "throws";
        }
        try {
            want = (long) m.net(s);
        } catch (NoSuchElementException e) {
            want = "throws";
        }
        return same("net(" + s + ")", got, want);
    }

    private Object nowCall(int what) {
        return same("now(" + what + ")", x.now(what), m.now(what));
    }

    private Object daysCall() {
        int n = anyDays();
        return same("days(" + n + ")", x.days(n), m.days(n));
    }

    private Object clerkCall() {
        int n = anyDays();
        return same("clerk(" + n + ")", x.clerk(n), m.clerk(n));
    }

    /** The model tries all ways: it is asked only where they are not too many. */
    private Object mostCall() {
        int n = random.nextInt(6) == 0 ? -1 + random.nextInt(34) : 1 + random.nextInt(4);
        double ways = Math.pow(x.count(0) + 1, x.now(4));
        if (x.now(4) <= 5 && ways * n * x.count(1) * x.count(1) > 150000 * patience) {
            return 0L;
        }
        Object answer = same("most(" + n + ")", x.most(n), m.most(n));
        for (int s = 0; s < 8; s++) {
            same("gives(" + s + ")", x.gives(s), m.gives(s));
        }
        return answer;
    }

    private Object appealCall(int s, int k, boolean grant) {
        int today = 0;
        for (int i = 0; i < x.count(1); i++) {
            today += x.soul(i, 7);
        }
        if (Math.pow(x.count(0), today) > 50000 * patience) {
            return 0L;
        }
        Object answer = grant ? same("grant(" + s + ", " + k + ")", x.grant(s, k), m.grant(s, k))
                : same("appeal(" + s + ", " + k + ")", x.appeal(s, k), m.appeal(s, k));
        for (int i = 0; i < x.count(1); i++) {
            soulCall(i, 0);
            soulCall(i, 1);
        }
        for (int i = 0; i < x.count(0); i++) {
            kindCall(i, 2);
        }
        return answer;
    }

    private Object bookCall() {
        feedText(texts.book());
        int lives = any(2);
        Object answer = same("daybook(" + lives + ")", x.daybook(lives), m.daybook(lives));
        same("fault()", x.fault(), m.fault());
        for (int what = 0; what < 4; what++) {
            same("booked(" + what + ")", x.booked(what), m.booked(what));
        }
        return answer;
    }
}
