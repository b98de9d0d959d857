import java.util.ArrayList;
import java.util.List;
import java.util.Random;

/** Random texts of all sorts, most of them as told and some of them not. */
final class Texts {
    private static final String[] NAMES = {
        "a", "b", "c", "d", "e", "f", "g", "h", "i", "j", "worm", "king", "owl", "catfish", "x", "yy", "zzz",
    };
    private static final String[] KEYS = ("kind meets soul only wish debt grows as day clerk or and not waits "
            + "owes debts dues births left place").split(" ");
    private static final String[] MEASURES = {"debts", "dues", "births", "left", "place"};
    private final Random random;
    final List<String> kinds = new ArrayList<>();
    final List<String> souls = new ArrayList<>();

    Texts(Random random) {
        this.random = random;
    }

    private int upTo(int n) {
        return random.nextInt(n + 1);
    }

    private boolean oneIn(int n) {
        return random.nextInt(n) == 0;
    }

    private String oneOf(List<String> some) {
        return some.isEmpty() || oneIn(60) ? NAMES[random.nextInt(NAMES.length)] : some.get(random.nextInt(some.size()));
    }

    private String blank() {
        return oneIn(10) ? "\n" : oneIn(10) ? "  " : " ";
    }

    private void line(StringBuilder text, Object... parts) {
        for (int i = 0; i < parts.length; i++) {
            text.append(i == 0 ? "" : blank()).append(parts[i]);
        }
        text.append(oneIn(10) ? " ;" : ";").append(oneIn(6) ? blank() : "");
    }

    /** An OFFICE; its names are those of the texts to come, whether it is as told or not. */
    String office() {
        kinds.clear();
        souls.clear();
        StringBuilder text = new StringBuilder();
        List<String> names = new ArrayList<>(List.of(NAMES));
        int wantedKinds = oneIn(20) ? 7 : upTo(6);
        int wantedSouls = oneIn(20) ? 9 : upTo(8);
        boolean longLives = oneIn(3);
        boolean manyPlaces = oneIn(2);
        for (int i = 0; i < wantedKinds + wantedSouls; i++) {
            String name = names.remove(random.nextInt(names.size()));
            boolean kindNext = kinds.size() < wantedKinds
                    && (souls.size() == wantedSouls || random.nextBoolean());
            if (kindNext) {
                kinds.add(name);
                line(text, "kind", name, 1 + upTo(longLives ? 59 : 4), 1 + upTo(manyPlaces ? 8 : 1));
            } else {
                souls.add(name);
                line(text, "soul", name);
            }
        }
        laws(text);
        return changed(text, 940);
    }

    private void laws(StringBuilder text) {
        int muchDebt = oneIn(4) ? 998 : 30;
        int muchMet = oneIn(3) ? 99 : 6;
        boolean dense = random.nextBoolean();
        if (!oneIn(3)) {
            line(text, "grows", oneIn(2) ? 0 : upTo(9));
        }
        for (int a = 0; a < kinds.size(); a++) {
            for (int b = 0; b <= a; b++) {
                if (dense || oneIn(3)) {
                    boolean turned = random.nextBoolean();
                    line(text, "meets", kinds.get(turned ? a : b), kinds.get(turned ? b : a), upTo(muchMet));
                }
            }
        }
        for (String s : souls) {
            if (oneIn(3) && !kinds.isEmpty()) {
                only(text, s);
            }
            if (oneIn(3)) {
                line(text, "wish", s, oneOf(kinds));
            }
        }
        for (String a : souls) {
            for (String b : souls) {
                if (!a.equals(b) && oneIn(dense ? 2 : 5) && text.length() < 880) {
                    line(text, "debt", a, b, 1 + upTo(muchDebt));
                }
            }
        }
    }

    private void only(StringBuilder text, String s) {
        List<Object> parts = new ArrayList<>(List.of("only", s));
        for (String k : kinds) {
            if (random.nextBoolean()) {
                parts.add(k);
            }
        }
        if (parts.size() == 2) {
            parts.add(oneOf(kinds));
        }
        line(text, parts.toArray());
    }

    String book() {
        StringBuilder text = new StringBuilder();
        int lines = oneIn(15) ? 28 + upTo(4) : upTo(8);
        for (int i = 0; i < lines; i++) {
            switch (random.nextInt(4)) {
                case 0 -> line(text, "day", 1 + upTo(oneIn(4) ? 59 : 3));
                case 1 -> line(text, "clerk", 1 + upTo(oneIn(4) ? 59 : 3));
                default -> line(text, oneOf(souls), "as", oneOf(kinds));
            }
        }
        return changed(text, 420);
    }

    String sentence() {
        StringBuilder text = new StringBuilder();
        cond(text, oneIn(4) ? 8 : 3);
        return changed(text, 240);
    }

    private void cond(StringBuilder text, int depth) {
        do {
            do {
                one(text, depth);
            } while (oneIn(4) && text.append("and ") != null);
        } while (oneIn(4) && text.append("or ") != null);
    }

    private void one(StringBuilder text, int depth) {
        if (depth > 0 && random.nextInt(10) < depth + 2) {
            if (oneIn(2)) {
                text.append("not ");
                one(text, depth - 1);
            } else {
                text.append("( ");
                cond(text, depth - 1);
                text.append(") ");
            }
            return;
        }
        switch (random.nextInt(6)) {
            case 0 -> text.append("waits ");
            case 1 -> text.append("as ").append(oneOf(kinds)).append(blank());
            case 2 -> text.append("owes ").append(oneOf(souls)).append(blank());
            default -> text.append(MEASURES[random.nextInt(5)]).append(oneIn(2) ? " " : "")
                    .append("<=>".charAt(random.nextInt(3))).append(upTo(oneIn(3) ? 999 : 6)).append(blank());
        }
    }

    /** Now and then a text is changed somewhere, so that it has a FAULT, and made too long. */
    private String changed(StringBuilder text, int most) {
        for (int i = oneIn(3) ? 1 + upTo(1) : 0; i > 0; i--) {
            int at = upTo(text.length());
            switch (random.nextInt(6)) {
                case 0 -> text.insert(at, (char) random.nextInt(256));
                case 1 -> text.insert(at, " " + KEYS[random.nextInt(KEYS.length)] + " ");
                case 2 -> text.insert(at, " " + NAMES[random.nextInt(NAMES.length)] + " ");
                case 3 -> text.insert(at, oneIn(2) ? " " + random.nextInt(1200) + " " : ";<=>()".substring(upTo(5)));
                case 4 -> text.delete(at, Math.min(text.length(), at + 1 + upTo(6)));
                default -> text.setLength(at);
            }
        }
        if (oneIn(15)) {
            while (text.length() < most) {
                text.insert(text.length() / 2, " ");
            }
        }
        text.setLength(Math.min(text.length(), 940));
        return text.toString();
    }

    /** What two could settle DAY by DAY. */
    String seen() {
        StringBuilder text = new StringBuilder();
        char much = (char) (oneIn(3) ? upTo(99) : upTo(6));
        for (int i = oneIn(30) ? 0 : 1 + upTo(oneIn(5) ? 31 : 4); i > 0; i--) {
            text.append(oneIn(3) ? (char) 0 : much);
        }
        return text.toString();
    }
}
