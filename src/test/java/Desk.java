import java.lang.reflect.InvocationTargetException;
import java.lang.reflect.Method;
import java.util.Map;
import java.util.NoSuchElementException;
import java.util.TreeMap;

/** What the tests by hand share: texts fed as bytes, and answers held against those due. */
final class Desk {
    private int wrong = 0;
    private int checks = 0;
    private String running = "";

    void due(String what, long got, long want) {
        checks++;
        if (got != want) {
            wrong++;
            System.out.println(running + what + " answered " + got + ", due is " + want);
        }
    }

    /**
     * Runs each test of a class, by itself: its methods without arguments that are named by a promise, as
     * p07NoSuchOnes(). How many tests each promise has is counted up.
     */
    void runAll(Class<?> tests, Map<Integer, Integer> testsOfPromise) throws IllegalAccessException {
        Map<String, Method> byName = new TreeMap<>();
        for (Method m : tests.getDeclaredMethods()) {
            if (m.getName().matches("p\\d\\d\\w+") && m.getParameterCount() == 0) {
                m.setAccessible(true);
                byName.put(m.getName(), m);
            }
        }
        for (Method m : byName.values()) {
            running = m.getName() + ": ";
            int ahead = checks;
            try {
                m.invoke(null);
            } catch (InvocationTargetException e) {
                e.getCause().printStackTrace(System.out);
                due("threw", 1, 0);
            }
            if (checks == ahead) {
                due("answers asked for", 0, 1);
            }
            testsOfPromise.merge(Integer.valueOf(m.getName().substring(1, 3)), 1, Integer::sum);
        }
        running = "";
    }

    void due(String what, boolean got, boolean want) {
        due(what, got ? 1L : 0L, want ? 1L : 0L);
    }

    void throwsSoul(SoulOffice x, int s, int what) {
        try {
            due("soul(" + s + ", " + what + ") answered; due is NoSuchElementException", x.soul(s, what), Long.MIN_VALUE);
        } catch (NoSuchElementException e) {
            checks++;
        }
    }

    void throwsNet(SoulOffice x, int s) {
        try {
            due("net(" + s + ") answered; due is NoSuchElementException", x.net(s), Long.MIN_VALUE);
        } catch (NoSuchElementException e) {
            checks++;
        }
    }

    /** Ends the test: with exit code 1 if an answer was wrong. */
    void close(String name) {
        System.out.println(name + ": " + (checks - wrong) + " of " + checks + " answers are as due");
        if (wrong > 0) {
            System.exit(1);
        }
    }

    /** The tape is this text alone. */
    static void text(SoulOffice x, String text) {
        x.end(0);
        for (int i = 0; i < text.length(); i += 20) {
            int[] n = new int[5];
            for (int j = 0; j < 20; j++) {
                int b = i + j < text.length() ? text.charAt(i + j) & 255 : 0;
                n[j / 4] = n[j / 4] << 8 | b;
            }
            x.feed(n[0], n[1], n[2], n[3], n[4]);
        }
        x.end(text.length());
    }

    static int office(SoulOffice x, String text) {
        text(x, text);
        return x.office();
    }

    static SoulOffice with(String text) {
        SoulOffice x = new SoulOffice();
        if (office(x, text) < 0) {
            throw new IllegalStateException("a FAULT in the test's own OFFICE: " + text);
        }
        return x;
    }

    static int book(SoulOffice x, int lives, String text) {
        text(x, text);
        return x.daybook(lives);
    }

    static int sentence(SoulOffice x, String text) {
        text(x, text);
        return x.sentence();
    }

    static int were(SoulOffice x, int a, int b, int... seen) {
        StringBuilder text = new StringBuilder();
        for (int n : seen) {
            text.append((char) n);
        }
        text(x, text.toString());
        return x.were(a, b);
    }

    static String blanks(int n) {
        return " ".repeat(n);
    }
}
