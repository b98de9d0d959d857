import java.util.ArrayList;
import java.util.Collections;
import java.util.List;
import java.util.Random;

/**
 * The searches (appeals, the most that can be settled, the most groups) in OFFICES made for them: KINDS that are
 * full, lives of all lengths, debts both ways. SoulOffice has to answer as Model, which tries every way. With
 * arguments: how many OFFICES of each sort, and the first one's seed.
 */
public final class SearchTest {
    private final Random random;
    private final SoulOffice x = new SoulOffice();
    private final Model m = new Model();
    private final List<String> told = new ArrayList<>();
    private static int wrong = 0;
    private static int far = 0;
    private static int none = 0;
    private static int grouped = 0;
    private static int chosen = 0;

    private SearchTest(long seed) {
        random = new Random(seed);
        told.add("seed " + seed);
    }

    public static void main(String[] args) {
        int offices = args.length == 2 ? Integer.parseInt(args[0]) : 150;
        long firstSeed = args.length == 2 ? Long.parseLong(args[1]) : 1;
        for (int i = 0; i < offices && wrong == 0; i++) {
            new SearchTest(firstSeed + i).appeals();
            new SearchTest(firstSeed + i).mosts();
            new SearchTest(firstSeed + i).groupsOfMany();
        }
        System.out.println("SearchTest: " + far + " appeals by three changes or more, " + none + " by none, " + chosen
                + " ways of four or more, " + grouped + " partings in two groups or more, " + wrong + " wrong");
        boolean enough = far * 2 >= offices && none >= offices && chosen * 5 >= offices && grouped * 4 >= offices;
        System.exit(wrong == 0 && enough ? 0 : 1);
    }

    private int upTo(int n) {
        return random.nextInt(n + 1);
    }

    private void begin(String office) {
        told.add(office);
        feed(office);
        same("office()", x.office(), m.office());
    }

    private void feed(String text) {
        Desk.text(x, text);
        m.end(0);
        for (int i = 0; i < text.length(); i += 20) {
            int[] n = new int[5];
            for (int j = 0; j < 20 && i + j < text.length(); j++) {
                n[j / 4] |= text.charAt(i + j) << 24 - j % 4 * 8;
            }
            m.feed(n);
        }
        m.end(text.length());
    }

    private int same(String call, int got, int want) {
        told.add(call + " = " + got);
        if (got != want) {
            if (wrong == 0) {
                told.forEach(System.out::println);
                System.out.println("    but the model tells " + want);
            }
            wrong++;
        }
        return got;
    }

    private void give(int s, int k) {
        same("give(" + s + ", " + k + ")", x.give(s, k), m.give(s, k));
    }

    // ---- appeals ----

    /** KINDS with few PLACES, and SOULS that may be two or three of them, all given out by chance. */
    private void appeals() {
        int kinds = 3 + upTo(3);
        int souls = 4 + upTo(4);
        StringBuilder text = new StringBuilder();
        for (int k = 0; k < kinds; k++) {
            text.append("kind k").append((char) ('a' + k)).append(' ').append(2 + upTo(3)).append(' ')
                    .append(1 + (souls > kinds ? upTo(1) : 0) + (k == kinds - 1 ? 1 : 0)).append(';');
        }
        for (int s = 0; s < souls; s++) {
            text.append("soul ").append((char) ('a' + s)).append(';');
            if (random.nextInt(12) > 0) {
                text.append("only ").append((char) ('a' + s)).append(someKinds(kinds)).append(';');
            }
        }
        begin(text.toString());
        if (random.nextInt(3) == 0) {
            give(upTo(souls - 1), upTo(kinds - 1));
            same("days(1)", x.days(1), m.days(1));
        }
        giveByChance(souls, kinds);
        for (int k = kinds - 1; k >= 0; k--) {
            for (int s = 0; s < souls; s++) {
                give(s, k);
            }
        }
        x.image(0);
        m.image(0);
        for (int s = 0; s < souls; s++) {
            for (int k = 0; k < kinds; k++) {
                int changes = same("appeal(" + s + ", " + k + ")", x.appeal(s, k), m.appeal(s, k));
                far += changes >= 3 ? 1 : 0;
                none += changes < 0 ? 1 : 0;
                grant(s, k, souls, kinds);
            }
        }
    }

    private StringBuilder someKinds(int kinds) {
        List<Integer> all = new ArrayList<>();
        for (int k = 0; k < kinds; k++) {
            all.add(k);
        }
        Collections.shuffle(all, random);
        StringBuilder some = new StringBuilder();
        for (int k : all.subList(0, 2 + upTo(1))) {
            some.append(" k").append((char) ('a' + k));
        }
        return some;
    }

    private void giveByChance(int souls, int kinds) {
        List<Integer> order = new ArrayList<>();
        for (int s = 0; s < souls; s++) {
            order.add(s);
        }
        Collections.shuffle(order, random);
        for (int s : order) {
            give(s, upTo(kinds - 1));
        }
    }

    private void grant(int s, int k, int souls, int kinds) {
        same("grant(" + s + ", " + k + ")", x.grant(s, k) ? 1 : 0, m.grant(s, k) ? 1 : 0);
        for (int t = 0; t < souls; t++) {
            for (int what = 0; what <= 2; what++) {
                same("soul(" + t + ", " + what + ")", x.soul(t, what), m.soul(t, what));
            }
            same("soul(" + t + ", 7)", x.soul(t, 7), m.soul(t, 7));
        }
        for (int i = 0; i < kinds; i++) {
            same("kind(" + i + ", 2)", x.kind(i, 2), m.kind(i, 2));
            same("kind(" + i + ", 3)", x.kind(i, 3), m.kind(i, 3));
        }
        same("restore(0)", x.restore(0) ? 1 : 0, m.restore(0) ? 1 : 0);
    }

    // ---- the most that can be settled ----

    private void mosts() {
        int kinds = 2 + upTo(1);
        int souls = 5 + upTo(3);
        begin(officeOfDebts(kinds, souls));
        for (int s = 0; s < souls; s++) {
            if (s < souls - 5 || random.nextInt(3) == 0) {
                give(s, upTo(kinds - 1));
            }
        }
        if (random.nextBoolean()) {
            same("days(1)", x.days(1), m.days(1));
            give(upTo(souls - 1), upTo(kinds - 1));
        }
        for (int i = 0; i < 3; i++) {
            int n = 1 + upTo(i == 2 ? 29 : 5);
            same("most(" + n + ")", x.most(n), m.most(n));
            int ways = 0;
            for (int s = 0; s < 8; s++) {
                ways += same("gives(" + s + ")", x.gives(s), m.gives(s)) >= 0 ? 1 : 0;
            }
            chosen += ways >= 4 ? 1 : 0;
        }
    }

    private String officeOfDebts(int kinds, int souls) {
        StringBuilder text = new StringBuilder();
        for (int k = 0; k < kinds; k++) {
            text.append("kind k").append((char) ('a' + k)).append(' ').append(1 + upTo(6)).append(' ')
                    .append(1 + upTo(4)).append(';');
            for (int l = 0; l <= k; l++) {
                text.append("meets k").append((char) ('a' + k)).append(" k").append((char) ('a' + l)).append(' ')
                        .append(upTo(6)).append(';');
            }
        }
        for (int s = 0; s < souls; s++) {
            text.append("soul ").append((char) ('a' + s)).append(';');
        }
        for (int i = 3 * souls; i > 0; i--) {
            int a = upTo(souls - 1);
            int b = upTo(souls - 1);
            String debt = "debt " + (char) ('a' + a) + " " + (char) ('a' + b) + " ";
            if (a != b && text.indexOf(debt) < 0) {
                text.append(debt).append(1 + upTo(14)).append(';');
            }
        }
        return text.append("grows ").append(upTo(2)).append(';').toString();
    }

    // ---- groups ----

    /** Debts of few sizes among eight, so that many partings come to 0. */
    private void groupsOfMany() {
        StringBuilder text = new StringBuilder("soul a;soul b;soul c;soul d;soul e;soul f;soul g;soul h;");
        for (int i = 4 + upTo(6); i > 0; i--) {
            String debt = "debt " + (char) ('a' + upTo(7)) + " " + (char) ('a' + upTo(7)) + " ";
            if (debt.charAt(5) != debt.charAt(7) && text.indexOf(debt) < 0) {
                text.append(debt).append(1 + upTo(3)).append(';');
            }
        }
        begin(text.toString());
        grouped += same("groups()", x.groups(), m.groups()) >= 2 ? 1 : 0;
        same("fewest()", x.fewest(), m.fewest());
    }
}
