import java.lang.management.ManagementFactory;
import java.util.NoSuchElementException;
import java.util.Random;

/**
 * Any arguments in any state: nothing is thrown but what the document tells, and all ends. And what
 * calls cost: no call makes an object, the dearest ones end soon.
 */
public final class LimitTest {
    private static final Desk D = new Desk();
    private static final int[] ODD = {
        Integer.MIN_VALUE, Integer.MIN_VALUE + 1, -1000, -9, -8, -2, -1, 0, 1, 2, 3, 5, 6, 7, 8, 9, 30, 31, 32, 33,
        40, 41, 60, 61, 63, 64, 400, 940, 941, 9999, 1 << 16, 1 << 30, Integer.MAX_VALUE - 1, Integer.MAX_VALUE,
    };

    public static void main(String[] args) {
        throwsOnBadSouls();
        for (int seed = 0; seed < 60; seed++) {
            wildRun(new Random(seed));
        }
        longestTexts();
        dearestCalls();
        makesNoObjects();
        D.close("LimitTest");
    }

    private static void throwsOnBadSouls() {
        SoulOffice x = Desk.with("soul a;soul b;kind k 1 1;debt a b 1;");
        for (int n : ODD) {
            if (n < 0 || n > 1) {
                D.throwsSoul(x, n, 0);
                D.throwsNet(x, n);
            }
            if (n < 0 || n > 7) {
                D.throwsSoul(x, 0, n);
            }
        }
        D.due("a call that throws changes nothing", x.now(1), 1);
    }

    private static void wildRun(Random random) {
        SoulOffice x = new SoulOffice();
        Texts texts = new Texts(random);
        Desk.office(x, texts.office());
        for (int i = 0; i < 500; i++) {
            int op = random.nextInt(44);
            int a = random.nextInt(2) == 0 ? ODD[random.nextInt(ODD.length)] : random.nextInt(10) - 1;
            int b = random.nextInt(2) == 0 ? ODD[random.nextInt(ODD.length)] : random.nextInt(8) - 1;
            try {
                call(x, texts, op, a, b);
            } catch (NoSuchElementException e) {
                D.due("call " + op + " throws (" + a + ", " + b + ")", op == 6 || op == 18, true);
            } catch (RuntimeException | Error e) {
                e.printStackTrace(System.out);
                D.due("call " + op + " (" + a + ", " + b + ") throws", 1, 0);
            }
        }
    }

    private static void call(SoulOffice x, Texts texts, int op, int a, int b) {
        switch (op) {
            case 0 -> x.feed(a, b, a, b, a);
            case 1 -> x.end(a);
            case 2 -> x.office();
            case 3 -> x.fault();
            case 4 -> x.kind(a, b);
            case 5 -> x.meets(a, b);
            case 6 -> x.soul(a, b);
            case 7 -> x.debt(a, b);
            case 8 -> x.now(a);
            case 9 -> x.why(a, b);
            case 10 -> x.give(a, b);
            case 11 -> x.days(a);
            case 12 -> x.clerk(a);
            case 13 -> x.settled(a, b);
            case 14 -> x.undo();
            case 15 -> x.most(a);
            case 16 -> x.gives(a);
            case 17 -> x.hopeless(a);
            case 18 -> x.net(a);
            case 19 -> x.fewest();
            case 20 -> x.groups();
            case 21 -> x.were(a, b);
            case 22 -> x.first(a);
            case 23 -> x.appeal(a, b);
            case 24 -> x.grant(a, b);
            case 25 -> x.ends();
            case 26 -> x.later(a);
            case 27 -> x.queue(a);
            case 28 -> x.drawn(a, b);
            case 29 -> x.odds(a, b);
            case 30 -> x.greatest(a);
            case 31 -> x.daybook(a);
            case 32 -> x.booked(a);
            case 33 -> x.sentence();
            case 34 -> x.said(a);
            case 35 -> x.image(a);
            case 36 -> x.restore(a);
            case 37 -> x.count(a);
            case 38 -> Desk.text(x, texts.book());
            case 39 -> Desk.text(x, texts.sentence());
            case 40 -> Desk.text(x, texts.seen());
            case 41 -> Desk.book(x, 1, texts.book());
            case 42 -> Desk.sentence(x, texts.sentence());
            default -> Desk.office(x, texts.office());
        }
    }

    private static void longestTexts() {
        SoulOffice x = new SoulOffice();
        for (String piece : new String[] {"(", "not ", "a", "1", ";", "((waits)or ", " ", "\n", "kind ", "(not "}) {
            String text = piece.repeat(940 / piece.length());
            D.due("an OFFICE of '" + piece + "'", Desk.office(x, text) < 0, true);
            D.due("a DAYBOOK of '" + piece + "'", Desk.book(x, 1, text) < 0, true);
            D.due("a SENTENCE of '" + piece + "'", Desk.sentence(x, text) < 0, true);
        }
    }

    /** Eight SOULS in a long chain of KINDS without a PLACE left, and five who wait to be chosen for. */
    private static SoulOffice dearest(boolean allGiven) {
        StringBuilder text = new StringBuilder();
        for (char k = 'a'; k <= 'f'; k++) {
            text.append("kind ").append(k).append(" 60 ").append(k <= 'b' ? 2 : 1).append(";");
        }
        for (char k = 'a'; k <= 'f'; k++) {
            for (char l = k; l <= 'f'; l++) {
                text.append("meets ").append(k).append(" ").append(l).append(" ").append(1 + (k * l) % 3).append(";");
            }
        }
        for (char s = 's'; s <= 'z'; s++) {
            text.append("soul ").append(s).append(";");
        }
        text.append("grows 9;");
        for (char s = 's'; s <= 'z' && text.length() < 850; s++) {
            text.append("debt ").append(s).append(" ").append((char) (s == 'z' ? 's' : s + 1)).append(" 900;");
        }
        SoulOffice x = Desk.with(text.toString());
        int[] as = {0, 0, 1, 1, 2, 3, 4, 5};
        for (int s = allGiven ? 0 : 5; s < 8; s++) {
            D.due("given out", x.give(s, as[s]), 0);
        }
        return x;
    }

    private static void dearestCalls() {
        SoulOffice x = dearest(false);
        SoulOffice y = dearest(true);
        long begin = System.nanoTime();
        for (int i = 0; i < 20; i++) {
            D.due("most(30)", x.most(30) > 0, true);
            D.due("appeal", y.appeal(i % 8, 5) >= 0, true);
            D.due("grant", y.grant(i % 8, i % 6) || y.appeal(i % 8, i % 6) == 0, true);
            D.due("ends()", x.ends(), -1);
            D.due("odds", x.odds(40, i) >= 0, true);
        }
        D.due("in less than ten seconds", System.nanoTime() - begin < 10_000_000_000L, true);
    }

    private static void makesNoObjects() {
        java.lang.management.ThreadMXBean bean = ManagementFactory.getThreadMXBean();
        if (!(bean instanceof com.sun.management.ThreadMXBean counter) || !counter.isThreadAllocatedMemorySupported()) {
            return;
        }
        SoulOffice x = dearest(false);
        Desk.text(x, "clerk 1;s as a;");
        long thread = Thread.currentThread().getId();
        for (int turn = 0; turn < 2; turn++) {
            long before = counter.getThreadAllocatedBytes(thread);
            for (int i = 0; i < 100; i++) {
                x.most(30);
                x.odds(2, i);
                x.ends();
                x.daybook(1);
                x.give(0, 1);
                x.grant(0, 2);
                x.days(1);
                x.groups();
                x.hopeless(-1);
                x.image(1);
                x.undo();
                x.restore(1);
                x.feed(i, 2, 3, 4, 5);
                x.sentence();
                x.feed(i, 2, 3, 4, 5);
                x.office();
                x.said(-1);
            }
            long made = counter.getThreadAllocatedBytes(thread) - before;
            if (turn == 1) {
                D.due("1700 calls made more than 20000 bytes", made > 20000, false);
            }
        }
    }
}
