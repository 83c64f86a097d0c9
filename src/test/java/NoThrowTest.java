import java.util.Random;
import java.util.NoSuchElementException;

/** Random calls with random and outermost arguments: nothing but what the document names is thrown. */
public final class NoThrowTest {
    private static final int[] OUTERMOST = {Integer.MIN_VALUE, Integer.MIN_VALUE + 1, -2, -1, 0, 1, 2, 9, 10, 29, 30, 31, 32,
        59, 60, 61, 1023, 1024, 1 << 30, Integer.MAX_VALUE - 1, Integer.MAX_VALUE};
    private static final String SIGNS = "abcd  ;;;05 \n";
    private static final String[] TEXTS = {"person a 0 59;person b 0 59;deal d a b 5 1 1;", "law years 3;", "d;", "limit a 1;",
        "person ", "deal ", " either;", "part a lends;", "\0\1", "\1\2\2\0", "person c 0 59;deal e b c 5 1 1 either;deal f c a 5 2 2;"};

    private final Random random;
    private final LendTown x = new LendTown();

    private NoThrowTest(long seed) {
        random = new Random(seed);
    }

    public static void main(String[] args) {
        for (int seed = 0; seed < 300; seed++) {
            NoThrowTest run = new NoThrowTest(seed);
            for (int k = 0; k < 600; k++) {
                run.call(seed);
            }
        }
        Due.end();
    }

    private int number() {
        return random.nextInt(3) == 0 ? OUTERMOST[random.nextInt(OUTERMOST.length)] : random.nextInt(2) == 0 ? random.nextInt(8) : random.nextInt(60);
    }

    private void feed() {
        StringBuilder text = new StringBuilder();
        int pieces = random.nextInt(4);
        for (int i = 0; i < pieces; i++) {
            text.append(TEXTS[random.nextInt(TEXTS.length)]);
            if (random.nextInt(8) == 0) {
                text.append((char) random.nextInt(256));
            }
            if (random.nextInt(8) == 0) {
                text.append(SIGNS.charAt(random.nextInt(SIGNS.length())));
            }
        }
        Due.feed(x, text.toString());
    }

    private void call(int seed) {
        int which = random.nextInt(50);
        int threw = 0;
        try {
            if (which < 22) {
                first(which, number(), number());
            } else {
                second(which, number(), number());
            }
        } catch (NoSuchElementException e) {
            threw = which == 4 || which == 5 ? 0 : 1;
        } catch (RuntimeException e) {
            threw = 1;
        }
        Due.is("seed " + seed + " call " + which + " throws", 0, threw);
    }

    private void first(int which, int a, int b) {
        switch (which) {
            case 0 -> x.feed(a, b, a, b, a);
            case 1 -> x.end(a);
            case 2 -> x.town();
            case 3 -> x.fault();
            case 4 -> x.person(a, b);
            case 5 -> x.deal(a, b);
            case 6 -> x.does(a, b);
            case 7 -> x.undo();
            case 8 -> x.book();
            case 9 -> x.why();
            case 10 -> x.is(a, b);
            case 11 -> x.may(a);
            case 12 -> x.had(a);
            case 13 -> x.gain(a);
            case 14 -> x.best();
            case 15 -> x.bestParts();
            case 16 -> x.goes(a);
            case 17 -> x.above(a);
            case 18 -> x.price(a, b);
            case 19 -> x.loss(a, b);
            case 20 -> x.climb(a);
            default -> x.climbed();
        }
    }

    private void second(int which, int a, int b) {
        switch (which) {
            case 22 -> x.told();
            case 23 -> x.own(a, b);
            case 24 -> x.rests(a);
            case 25 -> x.rounds(a);
            case 26 -> x.ended(a);
            case 27 -> x.one(a, b);
            case 28 -> x.oneBy(a, b, number());
            case 29 -> x.lawful();
            case 30 -> x.lawfulBy(a);
            case 31 -> x.oneIs(a);
            case 32 -> x.fewest();
            case 33 -> x.meet();
            case 34 -> x.must(a);
            case 35 -> x.wrongly();
            case 36 -> x.between(a);
            case 37 -> x.run(a);
            case 38 -> x.refused();
            case 39 -> x.image(a);
            case 40 -> x.restore(a);
            case 41 -> x.count(a);
            case 42 -> {
                x.end(0);
                feed();
                x.town();
            }
            case 43, 44 -> x.does(random.nextInt(4), random.nextInt(2));
            default -> feed();
        }
    }
}
