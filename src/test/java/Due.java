import java.util.NoSuchElementException;

/** What the tests share: feeding a text, and counting the answers that are not due. */
final class Due {
    private static int wrong = 0;
    private static int asked = 0;
    private static int sentences = 0;
    private static String sentence = "";

    private Due() {
    }

    interface Call {
        int answer();
    }

    /** What is asked from here on tests this sentence of the document. */
    static void sentence(String text) {
        sentences++;
        sentence = text + ": ";
    }

    static void is(String call, long want, long got) {
        asked++;
        if (got != want) {
            wrong++;
            if (wrong < 50) {
                System.out.println(sentence + call + " answered " + got + ", due is " + want);
            }
        }
    }

    static void yes(String call, boolean got) {
        is(call, 1, got ? 1 : 0);
    }

    static void no(String call, boolean got) {
        is(call, 0, got ? 1 : 0);
    }

    static void noSuchElement(String call, Call made) {
        int threw = 0;
        try {
            made.answer();
        } catch (NoSuchElementException e) {
            threw = 1;
        }
        is(call + " throws", 1, threw);
    }

    static void end() {
        System.out.println((sentences > 0 ? sentences + " sentences, " : "") + asked + " answers, " + wrong + " not due");
        if (wrong > 0) {
            System.exit(1);
        }
    }

    /** Puts the text behind the tape of x. */
    static void feed(LendTown x, String text) {
        int before = x.count(4);
        for (int i = 0; i < text.length(); i += 20) {
            x.feed(number(text, i), number(text, i + 4), number(text, i + 8), number(text, i + 12), number(text, i + 16));
        }
        x.end(before + text.length());
    }

    static int number(String text, int from) {
        int value = 0;
        for (int i = from; i < from + 4; i++) {
            value = value << 8 | (i < text.length() ? text.charAt(i) : 0);
        }
        return value;
    }

    static int town(LendTown x, String text) {
        feed(x, text);
        return x.town();
    }

    static LendTown townOf(String text) {
        LendTown x = new LendTown();
        int lines = town(x, text);
        if (lines < 0) {
            is("the test's town " + text, 0, lines);
        }
        return x;
    }

    static int book(LendTown x, String text) {
        feed(x, text);
        return x.book();
    }

    static String pairs(int... persons) {
        StringBuilder text = new StringBuilder();
        for (int p : persons) {
            text.append((char) p);
        }
        return text.toString();
    }
}
