import java.util.ArrayList;
import java.util.Arrays;
import java.util.Collections;
import java.util.HashSet;
import java.util.LinkedHashMap;
import java.util.List;
import java.util.Map;
import java.util.NoSuchElementException;
import java.util.Set;
import java.util.function.IntPredicate;
import java.util.regex.Matcher;
import java.util.regex.Pattern;

/**
 * The document said a second time, as plainly as it goes and with all of Java's library: ways are
 * tried one by one and days are lived one by one. FuzzTest holds SoulOffice against it.
 */
final class Model {
    private static final Set<String> KEYS = new HashSet<>(Arrays.asList(("kind meets soul only wish debt grows "
            + "as day clerk or and not waits owes debts dues births left place").split(" ")));

    // ---- texts ----

    private static final class Fault extends RuntimeException {
        private static final long serialVersionUID = 1;
        final int sort;
        final int place;

        Fault(int sort, int place) {
            super(null, null, false, false);
            this.sort = sort;
            this.place = place;
        }
    }

    private static final class Token {
        final String text;
        final int place;

        Token(String text, int place) {
            this.text = text;
            this.place = place;
        }

        boolean isName() {
            return text.matches("[a-z]{1,7}") && !KEYS.contains(text);
        }
    }

    private static final class Text {
        private static final Pattern PIECE = Pattern.compile("\\G[ \n]*([a-z0-9]+|[^ \n])", Pattern.DOTALL);
        final List<Token> tokens = new ArrayList<>();
        int at = 0;

        Text(List<Integer> tape, int most) {
            StringBuilder all = new StringBuilder();
            for (int b : tape) {
                all.append((char) b);
            }
            Matcher m = PIECE.matcher(all);
            while (m.find() && m.start(1) < most) {
                tokens.add(new Token(m.group(1), m.start(1)));
            }
            // the end can come if the text is not too long; what stands for more bytes never can
            tokens.add(new Token(all.length() > most ? "?" : "", Math.min(all.length(), most)));
        }

        Token here() {
            return tokens.get(at);
        }

        boolean is(String text) {
            return here().text.equals(text);
        }

        Fault fault(int sort) {
            return new Fault(sort, here().place);
        }

        void take(String text) {
            if (!is(text)) {
                throw fault(1);
            }
            at++;
        }

        int number(int least, int most) {
            if (!here().text.matches("[0-9]{1,3}")) {
                throw fault(1);
            }
            int n = Integer.parseInt(here().text);
            if (n < least || n > most) {
                throw fault(2);
            }
            at++;
            return n;
        }

        String newName(Rules r) {
            if (!here().isName()) {
                throw fault(1);
            }
            if (r.kinds.containsKey(here().text) || r.souls.containsKey(here().text)) {
                throw fault(3);
            }
            return tokens.get(at++).text;
        }

        int name(Map<String, Integer> told, IntPredicate toldAgain) {
            if (!here().isName()) {
                throw fault(1);
            }
            Integer n = told.get(here().text);
            if (n == null || toldAgain.test(n)) {
                throw fault(3);
            }
            at++;
            return n;
        }

        int name(Map<String, Integer> told) {
            return name(told, n -> false);
        }
    }

    private static final class Rules {
        final Map<String, Integer> kinds = new LinkedHashMap<>();
        final Map<String, Integer> souls = new LinkedHashMap<>();
        final List<Integer> days = new ArrayList<>();
        final List<Integer> places = new ArrayList<>();
        final Map<Set<Integer>, Integer> meets = new LinkedHashMap<>();
        final Map<Integer, Set<Integer>> only = new LinkedHashMap<>();
        final Map<Integer, Integer> wish = new LinkedHashMap<>();
        final Map<List<Integer>, Integer> debts = new LinkedHashMap<>();
        Integer grows = null;
        int lines = 0;

        int meet(int a, int b) {
            return meets.getOrDefault(new HashSet<>(Arrays.asList(a, b)), 0);
        }

        boolean may(int s, int k) {
            return !only.containsKey(s) || only.get(s).contains(k);
        }
    }

    private static Rules readOffice(Text t) {
        Rules r = new Rules();
        while (!t.is("")) {
            readLine(t, r);
            t.take(";");
            r.lines++;
        }
        return r;
    }

    private static void readLine(Text t, Rules r) {
        String key = t.here().text;
        if (key.equals("kind") && r.kinds.size() == 6 || key.equals("soul") && r.souls.size() == 8) {
            throw t.fault(4);
        }
        if (key.equals("grows") && r.grows != null) {
            throw t.fault(3);
        }
        if (!Arrays.asList("kind", "meets", "soul", "only", "wish", "debt", "grows").contains(key)) {
            throw t.fault(1);
        }
        t.at++;
        switch (key) {
            case "kind" -> {
                r.kinds.put(t.newName(r), r.kinds.size());
                r.days.add(t.number(1, 60));
                r.places.add(t.number(1, 9));
            }
            case "meets" -> {
                int a = t.name(r.kinds);
                int b = t.name(r.kinds, n -> r.meets.containsKey(new HashSet<>(Arrays.asList(a, n))));
                r.meets.put(new HashSet<>(Arrays.asList(a, b)), t.number(0, 99));
            }
            case "soul" -> r.souls.put(t.newName(r), r.souls.size());
            case "only" -> {
                int s = t.name(r.souls, n -> r.only.containsKey(n));
                Set<Integer> some = new HashSet<>();
                do {
                    some.add(t.name(r.kinds, some::contains));
                } while (!t.is(";"));
                r.only.put(s, some);
            }
            case "wish" -> {
                int s = t.name(r.souls, n -> r.wish.containsKey(n));
                r.wish.put(s, t.name(r.kinds));
            }
            case "debt" -> {
                int a = t.name(r.souls);
                int b = t.name(r.souls, n -> n == a || r.debts.containsKey(Arrays.asList(a, n)));
                r.debts.put(Arrays.asList(a, b), t.number(1, 999));
            }
            default -> r.grows = t.number(0, 9);
        }
    }

    private static final class BookLine {
        String key;
        int soul;
        int number;
    }

    private static List<BookLine> readBook(Text t, Rules r) {
        List<BookLine> all = new ArrayList<>();
        while (!t.is("")) {
            BookLine line = new BookLine();
            line.key = t.is("day") || t.is("clerk") ? t.here().text : "as";
            int before = t.at;
            if (line.key.equals("as")) {
                line.soul = t.name(r.souls);
            }
            if (all.size() == 30) {
                t.at = before;
                throw t.fault(4);
            }
            if (line.key.equals("as")) {
                t.take("as");
                line.number = t.name(r.kinds);
            } else {
                t.at++;
                line.number = t.number(1, 60);
            }
            t.take(";");
            all.add(line);
        }
        return all;
    }

    // ---- sentences ----

    private interface Said {
        boolean of(Life life, int s);
    }

    private static final class SentenceReader {
        final Text t;
        final Rules r;
        int ones = 0;

        SentenceReader(Text t, Rules r) {
            this.t = t;
            this.r = r;
        }

        Said whole() {
            Said all = cond(1);
            t.take("");
            return all;
        }

        Said cond(int depth) {
            Said left = all(depth);
            while (t.is("or")) {
                t.at++;
                Said a = left;
                Said b = all(depth);
                left = (l, s) -> a.of(l, s) || b.of(l, s);
            }
            return left;
        }

        Said all(int depth) {
            Said left = one(depth);
            while (t.is("and")) {
                t.at++;
                Said a = left;
                Said b = one(depth);
                left = (l, s) -> a.of(l, s) && b.of(l, s);
            }
            return left;
        }

        Said one(int depth) {
            String key = t.here().text;
            if (!Arrays.asList("not", "(", "waits", "as", "owes", "debts", "dues", "births", "left", "place")
                    .contains(key)) {
                throw t.fault(1);
            }
            if (ones == 20 || depth == 9) {
                throw t.fault(4);
            }
            ones++;
            t.at++;
            switch (key) {
                case "not": {
                    Said inner = one(depth + 1);
                    return (l, s) -> !inner.of(l, s);
                }
                case "(": {
                    Said inner = cond(depth + 1);
                    t.take(")");
                    return inner;
                }
                case "waits":
                    return (l, s) -> l.as.get(s) == -1;
                case "as": {
                    int k = t.name(r.kinds);
                    return (l, s) -> l.as.get(s) == k;
                }
                case "owes": {
                    int b = t.name(r.souls);
                    return (l, s) -> l.debt(s, b) > 0;
                }
                default:
                    return compared(key);
            }
        }

        Said compared(String key) {
            String sign = t.here().text;
            if (!sign.equals("<") && !sign.equals("=") && !sign.equals(">")) {
                throw t.fault(1);
            }
            t.at++;
            int n = t.number(0, 999);
            return (l, s) -> {
                int much = switch (key) {
                    case "debts" -> l.owes(s);
                    case "dues" -> l.dues(s);
                    case "births" -> l.births.get(s);
                    case "left" -> l.left.get(s);
                    default -> s;
                };
                return sign.equals("<") && much < n || sign.equals("=") && much == n || sign.equals(">") && much > n;
            };
        }
    }

    // ---- lives ----

    private static final class Life {
        final Rules r;
        int day = 0;
        int settled = 0;
        int grown = 0;
        List<Integer> as = new ArrayList<>();
        List<Integer> left = new ArrayList<>();
        List<Integer> births = new ArrayList<>();
        Set<Integer> today = new HashSet<>();
        Map<List<Integer>, Integer> debts = new LinkedHashMap<>();
        Map<Set<Integer>, Integer> last = new LinkedHashMap<>();

        Life(Rules r) {
            this.r = r;
            as.addAll(Collections.nCopies(r.souls.size(), -1));
            left.addAll(Collections.nCopies(r.souls.size(), 0));
            births.addAll(Collections.nCopies(r.souls.size(), 0));
            debts.putAll(r.debts);
        }

        Life(Life o) {
            r = o.r;
            day = o.day;
            settled = o.settled;
            grown = o.grown;
            as.addAll(o.as);
            left.addAll(o.left);
            births.addAll(o.births);
            today.addAll(o.today);
            debts.putAll(o.debts);
            last.putAll(o.last);
        }

        int debt(int a, int b) {
            return debts.getOrDefault(Arrays.asList(a, b), 0);
        }

        int owes(int s) {
            int sum = 0;
            for (int o = 0; o < as.size(); o++) {
                sum += debt(s, o);
            }
            return sum;
        }

        int dues(int s) {
            int sum = 0;
            for (int o = 0; o < as.size(); o++) {
                sum += debt(o, s);
            }
            return sum;
        }

        int all() {
            return debts.values().stream().mapToInt(d -> d).sum();
        }

        int waiting() {
            return Collections.frequency(as, -1);
        }

        int born() {
            return births.stream().mapToInt(d -> d).sum();
        }

        int placesLeft(int k) {
            int n = r.places.get(k);
            for (int s : today) {
                n -= as.get(s) == k ? 1 : 0;
            }
            return n;
        }

        int why(int s, int k) {
            return as.get(s) != -1 ? 1 : !r.may(s, k) ? 2 : placesLeft(k) < 1 ? 3 : 0;
        }

        int give(int s, int k) {
            int why = why(s, k);
            if (why == 0) {
                as.set(s, k);
                left.set(s, r.days.get(k));
                births.set(s, births.get(s) + 1);
                today.add(s);
            }
            return why;
        }

        void days(int n) {
            for (int i = 0; i < n; i++) {
                dayGoes();
            }
        }

        void dayGoes() {
            for (int a = 0; a < as.size(); a++) {
                for (int b = a + 1; b < as.size(); b++) {
                    int much = as.get(a) < 0 || as.get(b) < 0 ? 0 : r.meet(as.get(a), as.get(b));
                    int over = Math.max(much - debt(a, b), 0);
                    int before = debt(a, b) + debt(b, a);
                    debts.put(Arrays.asList(a, b), Math.max(debt(a, b) - much, 0));
                    debts.put(Arrays.asList(b, a), Math.max(debt(b, a) - over, 0));
                    last.put(new HashSet<>(Arrays.asList(a, b)), before - debt(a, b) - debt(b, a));
                    settled += before - debt(a, b) - debt(b, a);
                }
            }
            int before = all();
            debts.replaceAll((pair, d) -> d == 0 ? 0 : Math.min(d + (r.grows == null ? 0 : r.grows), 99999));
            grown += all() - before;
            for (int s = 0; s < as.size(); s++) {
                left.set(s, Math.max(left.get(s) - 1, 0));
                if (left.get(s) == 0) {
                    as.set(s, -1);
                }
            }
            today.clear();
            day++;
        }

        void clerkGives() {
            for (int s = 0; s < as.size(); s++) {
                List<Integer> order = new ArrayList<>();
                if (r.wish.containsKey(s)) {
                    order.add(r.wish.get(s));
                }
                for (int k = 0; k < r.days.size(); k++) {
                    order.add(k);
                }
                for (int k : order) {
                    if (give(s, k) == 0) {
                        break;
                    }
                }
            }
        }

        void clerk(int n) {
            for (int i = 0; i < n; i++) {
                clerkGives();
                dayGoes();
            }
        }

        void draw(int n, int seed) {
            int x = seed;
            for (int i = 0; i < n; i++) {
                for (int s = 0; s < as.size(); s++) {
                    if (as.get(s) == -1) {
                        x = x * 1103515245 + 12345;
                        give(s, (x >>> 8) % r.days.size());
                    }
                }
                dayGoes();
            }
        }
    }

    // ---- what the object holds ----

    private static final class Kept {
        Rules rules;
        Life life;
        Said said;
    }

    private final List<Integer> tape = new ArrayList<>();
    private Rules rules = new Rules();
    private Life life = new Life(rules);
    private Said said = null;
    private int fault = 0;
    private List<Life> past = new ArrayList<>();
    private final Kept[] kept = new Kept[2];
    private int[] first = null;
    private int[] booked = null;
    private Map<Integer, Integer> given = new LinkedHashMap<>();

    private boolean soulIs(int s) {
        return s >= 0 && s < rules.souls.size();
    }

    private boolean kindIs(int k) {
        return k >= 0 && k < rules.kinds.size();
    }

    private void remember() {
        past.add(new Life(life));
        if (past.size() > 8) {
            past.remove(0);
        }
    }

    int feed(int... numbers) {
        if (tape.size() + 20 > 940) {
            return -1;
        }
        for (int n : numbers) {
            for (int i = 3; i >= 0; i--) {
                tape.add(n >> 8 * i & 255);
            }
        }
        return tape.size();
    }

    boolean end(int n) {
        if (n < 0 || n > tape.size()) {
            return false;
        }
        tape.subList(n, tape.size()).clear();
        return true;
    }

    private Text takeText(int most) {
        Text t = new Text(tape, most);
        tape.clear();
        fault = 0;
        return t;
    }

    int office() {
        try {
            rules = readOffice(takeText(900));
        } catch (Fault f) {
            fault = f.sort;
            return -1 - f.place;
        }
        life = new Life(rules);
        said = null;
        past.clear();
        return rules.lines;
    }

    int fault() {
        return fault;
    }

    int kind(int k, int what) {
        if (!kindIs(k)) {
            return -1;
        }
        return switch (what) {
            case 0 -> rules.days.get(k);
            case 1 -> rules.places.get(k);
            case 2 -> life.placesLeft(k);
            case 3 -> Collections.frequency(life.as, k);
            default -> -1;
        };
    }

    int meets(int a, int b) {
        return kindIs(a) && kindIs(b) ? rules.meet(a, b) : -1;
    }

    int soul(int s, int what) {
        if (!soulIs(s) || what < 0 || what > 7) {
            throw new NoSuchElementException();
        }
        int may = 0;
        for (int k = 0; k < rules.kinds.size(); k++) {
            may += rules.may(s, k) ? 1 << k : 0;
        }
        return switch (what) {
            case 0 -> life.as.get(s);
            case 1 -> life.left.get(s);
            case 2 -> life.births.get(s);
            case 3 -> may;
            case 4 -> rules.wish.getOrDefault(s, -1);
            case 5 -> life.owes(s);
            case 6 -> life.dues(s);
            default -> life.today.contains(s) ? 1 : 0;
        };
    }

    int debt(int a, int b) {
        return soulIs(a) && soulIs(b) ? life.debt(a, b) : -1;
    }

    int now(int what) {
        return switch (what) {
            case 0 -> life.day;
            case 1 -> life.all();
            case 2 -> life.settled;
            case 3 -> life.grown;
            case 4 -> life.waiting();
            case 5 -> life.born();
            case 6 -> (int) life.debts.values().stream().filter(d -> d > 0).count();
            default -> -1;
        };
    }

    int why(int s, int k) {
        return soulIs(s) && kindIs(k) ? life.why(s, k) : -1;
    }

    int give(int s, int k) {
        if (why(s, k) == 0) {
            remember();
            life.give(s, k);
            return 0;
        }
        return why(s, k);
    }

    private boolean canGo(int n) {
        return n >= 1 && n <= 60 && life.day + n <= 9999;
    }

    int days(int n) {
        if (!canGo(n)) {
            return -1;
        }
        remember();
        life.days(n);
        return life.day;
    }

    int clerk(int n) {
        if (!canGo(n)) {
            return -1;
        }
        remember();
        life.clerk(n);
        return life.day;
    }

    int settled(int a, int b) {
        if (!soulIs(a) || !soulIs(b) || a == b || life.day == 0) {
            return -1;
        }
        return life.last.get(new HashSet<>(Arrays.asList(a, b)));
    }

    int undo() {
        if (past.isEmpty()) {
            return -1;
        }
        life = past.remove(past.size() - 1);
        return past.size();
    }

    int most(int n) {
        if (n < 1 || n > 30 || life.waiting() > 5) {
            return -1;
        }
        int best = -1;
        Map<Integer, Integer> bestWay = null;
        for (Map<Integer, Integer> way : ways(0)) {
            Life l = new Life(life);
            boolean can = true;
            for (int s : way.keySet()) {
                can = can && (way.get(s) == -1 || l.give(s, way.get(s)) == 0);
            }
            if (can) {
                l.days(n);
                if (l.settled - life.settled > best) {
                    best = l.settled - life.settled;
                    bestWay = way;
                }
            }
        }
        given = bestWay;
        return best;
    }

    /** Every way to choose a KIND or none for those who wait, from SOUL s on, the first ahead. */
    private List<Map<Integer, Integer>> ways(int s) {
        List<Map<Integer, Integer>> all = new ArrayList<>();
        if (s == rules.souls.size()) {
            all.add(new LinkedHashMap<>());
            return all;
        }
        List<Map<Integer, Integer>> rest = ways(s + 1);
        if (life.as.get(s) != -1) {
            return rest;
        }
        for (int k = -1; k < rules.kinds.size(); k++) {
            for (Map<Integer, Integer> way : rest) {
                Map<Integer, Integer> longer = new LinkedHashMap<>();
                longer.put(s, k);
                longer.putAll(way);
                if (k == -1 || life.why(s, k) == 0) {
                    all.add(longer);
                }
            }
        }
        return all;
    }

    int gives(int s) {
        return given.getOrDefault(s, -1);
    }

    int hopeless(int k) {
        List<Integer> all = new ArrayList<>();
        for (Map.Entry<List<Integer>, Integer> e : life.debts.entrySet()) {
            int a = e.getKey().get(0);
            int b = e.getKey().get(1);
            boolean hope = false;
            for (int x = 0; x < rules.kinds.size(); x++) {
                for (int y = 0; y < rules.kinds.size(); y++) {
                    hope |= rules.may(a, x) && rules.may(b, y) && rules.meet(x, y) > 0;
                }
            }
            if (e.getValue() > 0 && !hope) {
                all.add(10 * a + b);
            }
        }
        Collections.sort(all);
        return k == -1 ? all.size() : k >= 0 && k < all.size() ? all.get(k) : -1;
    }

    int net(int s) {
        if (!soulIs(s)) {
            throw new NoSuchElementException();
        }
        return life.dues(s) - life.owes(s);
    }

    private List<Integer> nets() {
        List<Integer> nets = new ArrayList<>();
        for (int s = 0; s < rules.souls.size(); s++) {
            if (net(s) != 0) {
                nets.add(net(s));
            }
        }
        return nets;
    }

    int fewest() {
        return nets().size() - groups();
    }

    int groups() {
        return part(nets(), 0, new ArrayList<>());
    }

    /** Every parting: number i joins each group that is begun, or begins one. */
    private static int part(List<Integer> nets, int i, List<Integer> sums) {
        if (i == nets.size()) {
            for (int sum : sums) {
                if (sum != 0) {
                    return -1;
                }
            }
            return sums.size();
        }
        int best = -1;
        for (int g = 0; g < sums.size(); g++) {
            List<Integer> joined = new ArrayList<>(sums);
            joined.set(g, sums.get(g) + nets.get(i));
            best = Math.max(best, part(nets, i + 1, joined));
        }
        List<Integer> begun = new ArrayList<>(sums);
        begun.add(nets.get(i));
        return Math.max(best, part(nets, i + 1, begun));
    }

    int were(int a, int b) {
        List<Integer> seen = new ArrayList<>(tape);
        tape.clear();
        if (seen.isEmpty() || seen.size() > 30 || !soulIs(a) || !soulIs(b) || a == b) {
            return -1;
        }
        int ways = 0;
        for (int x = 0; x < rules.kinds.size(); x++) {
            for (int y = 0; y < rules.kinds.size(); y++) {
                for (int behind = 0; behind <= 9; behind++) {
                    Integer[] due = new Integer[200];
                    Arrays.fill(due, 0);
                    for (int t = 0; t < rules.days.get(y); t++) {
                        if (t + behind < rules.days.get(x)) {
                            due[t + behind] = rules.meet(x, y);
                        }
                    }
                    if (rules.may(a, x) && rules.may(b, y)
                            && Arrays.asList(due).subList(0, seen.size()).equals(seen)) {
                        first = ways == 0 ? new int[] {x, y, behind} : first;
                        ways++;
                    }
                }
            }
        }
        return ways;
    }

    int first(int what) {
        return first == null || what < 0 || what > 2 ? -1 : first[what];
    }

    /** The first of the best ways of an APPEAL: the KINDS of all, or null. */
    private List<Integer> granted(int s, int k) {
        if (!soulIs(s) || !kindIs(k) || !life.today.contains(s)) {
            return null;
        }
        List<List<Integer>> all = new ArrayList<>();
        changes(s, k, new ArrayList<>(), all);
        List<Integer> best = null;
        for (List<Integer> way : all) {
            if (best == null || changed(way) < changed(best)) {
                best = way;
            }
        }
        return best;
    }

    private int changed(List<Integer> way) {
        int n = 0;
        for (int s = 0; s < way.size(); s++) {
            n += way.get(s).equals(life.as.get(s)) ? 0 : 1;
        }
        return n;
    }

    private void changes(int asker, int asked, List<Integer> way, List<List<Integer>> all) {
        int s = way.size();
        for (int k = 0; k < rules.kinds.size(); k++) {
            int used = 0;
            for (int t = 0; t < s; t++) {
                used += life.today.contains(t) && way.get(t) == k ? 1 : 0;
            }
            if (used > rules.places.get(k)) {
                return;
            }
        }
        if (s == rules.souls.size()) {
            all.add(new ArrayList<>(way));
            return;
        }
        List<Integer> order = new ArrayList<>();
        order.add(life.as.get(s));
        for (int k = 0; k < rules.kinds.size() && life.today.contains(s); k++) {
            if (k != life.as.get(s)) {
                order.add(k);
            }
        }
        for (int k : order) {
            if ((s != asker || k == asked) && (k == -1 || rules.may(s, k))) {
                way.add(k);
                changes(asker, asked, way, all);
                way.remove(s);
            }
        }
    }

    int appeal(int s, int k) {
        List<Integer> way = granted(s, k);
        return way == null ? -1 : changed(way);
    }

    boolean grant(int s, int k) {
        List<Integer> way = granted(s, k);
        if (way == null || changed(way) == 0) {
            return false;
        }
        remember();
        for (int t = 0; t < way.size(); t++) {
            if (!way.get(t).equals(life.as.get(t))) {
                life.as.set(t, way.get(t));
                life.left.set(t, rules.days.get(way.get(t)));
            }
        }
        return true;
    }

    int ends() {
        Life l = new Life(life);
        for (int i = 0; l.all() > 0; i++) {
            if (i == 400) {
                return -1;
            }
            l.clerk(1);
        }
        return l.day;
    }

    int later(int n) {
        Life l = new Life(life);
        l.clerk(Math.max(0, Math.min(n, 60)));
        return n < 1 || n > 60 ? -1 : l.all();
    }

    int queue(int k) {
        Life l = new Life(life);
        l.clerkGives();
        int bits = 0;
        for (int s = 0; s < rules.souls.size(); s++) {
            bits += l.as.get(s) == k && life.as.get(s) == -1 ? 1 << s : 0;
        }
        return kindIs(k) ? bits : -1;
    }

    int drawn(int n, int seed) {
        if (!canGo(n) || rules.kinds.isEmpty()) {
            return -1;
        }
        remember();
        int born = life.born();
        life.draw(n, seed);
        return life.born() - born;
    }

    int odds(int n, int seed) {
        if (n < 1 || n > 40 || rules.kinds.isEmpty()) {
            return -1;
        }
        Life clerk = new Life(life);
        clerk.clerk(30);
        int less = 0;
        for (int i = 0; i < n; i++) {
            Life l = new Life(life);
            l.draw(30, seed + i);
            less += l.all() < clerk.all() ? 1 : 0;
        }
        return less;
    }

    int greatest(int what) {
        if (what < 0 || what > 2 || rules.souls.isEmpty()) {
            return -1;
        }
        int best = 0;
        for (int s = 1; s < rules.souls.size(); s++) {
            if (greatness(s, what) > greatness(best, what)) {
                best = s;
            }
        }
        return best;
    }

    private int greatness(int s, int what) {
        return what == 0 ? life.owes(s) : what == 1 ? life.dues(s) : life.births.get(s);
    }

    int daybook(int lives) {
        if (lives != 0 && lives != 1) {
            return -1000;
        }
        List<BookLine> lines;
        try {
            lines = readBook(takeText(400), rules);
        } catch (Fault f) {
            fault = f.sort;
            return -2 - f.place;
        }
        Life l = new Life(life);
        int ahead = 0;
        int wrong = 0;
        for (BookLine line : lines) {
            if (line.key.equals("as")) {
                wrong = l.give(line.soul, line.number);
            } else if (l.day + line.number > 9999) {
                wrong = 4;
            } else if (line.key.equals("day")) {
                l.days(line.number);
            } else {
                l.clerk(line.number);
            }
            if (wrong != 0) {
                break;
            }
            ahead++;
        }
        booked = new int[] {wrong, ahead, l.settled - life.settled, l.all()};
        if (lives == 1 && ahead > 0) {
            remember();
            life = l;
        }
        return wrong == 0 ? -1 : ahead;
    }

    int booked(int what) {
        return booked == null || what < 0 || what > 3 ? -1 : booked[what];
    }

    int sentence() {
        SentenceReader reader = new SentenceReader(takeText(200), rules);
        try {
            said = reader.whole();
            return reader.ones;
        } catch (Fault f) {
            fault = f.sort;
            return -1 - f.place;
        }
    }

    int said(int k) {
        List<Integer> of = new ArrayList<>();
        for (int s = 0; s < rules.souls.size() && said != null; s++) {
            if (said.of(life, s)) {
                of.add(s);
            }
        }
        return said == null ? -1 : k == -1 ? of.size() : k >= 0 && k < of.size() ? of.get(k) : -1;
    }

    boolean image(int k) {
        if (k != 0 && k != 1) {
            return false;
        }
        kept[k] = new Kept();
        kept[k].rules = rules;
        kept[k].life = new Life(life);
        kept[k].said = said;
        return true;
    }

    boolean restore(int k) {
        if (k < 0 || k > 1 || kept[k] == null) {
            return false;
        }
        rules = kept[k].rules;
        life = new Life(kept[k].life);
        said = kept[k].said;
        past.clear();
        return true;
    }

    int count(int what) {
        return switch (what) {
            case 0 -> rules.kinds.size();
            case 1 -> rules.souls.size();
            case 2 -> rules.grows == null ? 0 : rules.grows;
            case 3 -> tape.size();
            default -> -1;
        };
    }
}
