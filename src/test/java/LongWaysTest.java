/** Ways of great lengths, of which the document tells no bound: paths, climbs, rounds, rings, and the fullest text. */
public final class LongWaysTest {
    private static final String TEN = "person a 0 9;person b 0 9;person c 0 9;person d 0 9;person e 0 9;"
        + "person f 0 9;person g 0 9;person h 0 9;person i 0 9;person j 0 9;";
    private static final int FIRST_FIVE_LEND = 31;

    private LongWaysTest() {
    }

    public static void main(String[] args) {
        longestPath();
        pathThroughGreatLoss();
        mostPaths();
        longClimb();
        longRounds();
        longRing();
        fullestTown();
        Due.end();
    }

    /** The n-th DEAL's own NAME. */
    private static String named(int n) {
        return "" + (char) ('k' + n / 6) + (char) ('a' + n % 6);
    }

    private static String name(int p) {
        return "" + (char) ('a' + p);
    }

    private static String deal(int n, int lender, int borrower, int gain, boolean turned) {
        int told = turned ? borrower : lender;
        int other = turned ? lender : borrower;
        return "deal " + named(n) + " " + name(told) + " " + name(other) + " 3 " + gain + " 0" + (turned ? " either;" : ";");
    }

    /** Four DEALS of 11 are done first: the fifth comes by giving up all of them for five of 10, nine DEALS along. */
    private static void longestPath() {
        Due.sentence("those with the greatest gains together, with which nobody passes his limit");
        for (int way = 0; way < 4; way++) {
            boolean backwards = way % 2 == 1;
            boolean turned = way / 2 == 1;
            String path = (backwards ? "a path told from its end" : "a path told in order") + (turned ? ", turned: " : ": ");
            LendTown x = Due.townOf(path(1, backwards, turned));
            Due.is(path + "gain", 50, x.gain(FIRST_FIVE_LEND));
            Due.is(path + "gain of the others", turned ? 50 : 0, x.gain(1023 - FIRST_FIVE_LEND));
            Due.is(path + "price of b", 1, x.price(1, FIRST_FIVE_LEND));
            Due.is(path + "price of a", 0, x.price(0, FIRST_FIVE_LEND));
            Due.is(path + "loss of a", 6, x.loss(0, FIRST_FIVE_LEND));
            Due.is(path + "loss of c", 8, x.loss(2, FIRST_FIVE_LEND));
            // The second such path finds what the first one has left.
            String twice = path(2, backwards, turned);
            Due.is(path + "twice", 100, Due.townOf(twice).gain(FIRST_FIVE_LEND));
            for (String end : new String[] {"limit a ", "limit j "}) {
                LendTown once = Due.townOf(twice.replace(end + 2, end + 1));
                Due.is(path + "once, for there is no second at " + end, 94, once.gain(FIRST_FIVE_LEND));
            }
        }
    }

    private static String path(int times, boolean backwards, boolean turned) {
        StringBuilder text = new StringBuilder(TEN + Texts.limits(10, times));
        for (int n = 0; n < 9 * times; n++) {
            int step = backwards ? 8 - n % 9 : n % 9;
            text.append(deal(n, (step + 1) / 2, 5 + step / 2, step % 2 == 0 ? 10 : 11, turned));
        }
        return text.toString();
    }

    private static void pathThroughGreatLoss() {
        Due.sentence("those with the greatest gains together, with which nobody passes his limit");
        LendTown x = Due.townOf("person a 0 9;person b 0 9;person c 0 9;person d 0 9;limit a 1;limit b 1;limit c 1;limit d 1;"
            + "deal x b d 1 99 98;deal y b c 1 99 99;deal z a c 1 1 1;");
        Due.is("198 given up for 2 and 197", 199, x.gain(3));
        Due.is("loss of a", 1, x.loss(0, 3));
        Due.is("price of b", 196, x.price(1, 3));
        Due.is("price of c", 1, x.price(2, 3));
    }

    /** a has ten DEALS in the year, one more than 9: the least of them is left out, all 29 others are done. */
    private static void mostPaths() {
        Due.sentence("with which nobody passes his limit; 9 without");
        StringBuilder text = new StringBuilder(TEN);
        int sum = 0;
        for (int n = 0; n < 30; n++) {
            int lender = n < 10 ? 0 : 1 + (n - 10) / 5;
            int gain = n == 7 ? 5 : 20 + n;
            sum += gain;
            text.append(deal(n, lender, 5 + n % 5, gain, false));
        }
        LendTown x = Due.townOf(text.toString());
        Due.is("all but the least", sum - 5, x.gain(FIRST_FIVE_LEND));
        Due.is("price of a", 5, x.price(0, FIRST_FIVE_LEND));
        Due.is("loss of b", 30 + 31 + 32 + 33 + 34, x.loss(1, FIRST_FIVE_LEND));
        Due.is("all are told to be ten's", 30, x.count(1));
    }

    private static void longClimb() {
        Due.sentence("and so on from the first one again, till there is none");
        String text = TEN + "deal ka j i 0 19 77;deal kb a c 0 33 82;deal kc f g 0 23 78;deal kd a h 0 17 41 either;"
            + "deal ke j d 0 99 93;deal kf a e 0 96 13;deal la j d 0 0 59 either;deal lb a f 0 64 23 either;"
            + "deal lc h e 0 63 78 either;deal ld j e 0 75 99;deal le f b 0 66 16;deal lf j b 0 18 89 either;"
            + "deal ma c j 0 34 69;deal mb h a 0 13 22;deal mc i f 0 25 79 either;deal md g c 0 5 46 either;"
            + "deal me j h 0 31 45 either;deal mf i j 0 64 59 either;deal na i g 0 85 72 either;deal nb c h 0 6 15 either;"
            + "deal nc d a 0 7 8 either;deal nd j i 0 54 98 either;deal ne e b 0 60 22 either;deal nf g j 0 71 3 either;"
            + "deal oa c d 0 23 59;deal ob j i 0 12 56;deal oc h a 0 91 10 either;deal od j d 0 75 4;"
            + "deal oe h b 0 17 14 either;deal of h g 0 5 9 either;";
        LendTown x = Due.townOf(text);
        PlainTown plain = new PlainTown();
        plain.town(text);
        Due.is("climb(210)", plain.climb(210), x.climb(210));
        Due.is("climbed()", 42, x.climbed());
        Due.is("climbed() of the model", 42, plain.climbed);
    }

    private static void longRounds() {
        Due.sentence("they end behind a round without a change (at REST)");
        rounds(TEN + "deal ka d b 0 19 31 either;deal kb e a 0 13 88 either;deal kc d f 0 7 33 either;"
            + "deal kd f a 0 45 76 either;deal ke g f 0 90 62 either;deal kf e d 0 34 80;deal la f a 0 83 58 either;"
            + "deal lb g i 0 92 11;deal lc f d 0 4 66 either;deal ld d g 0 80 27 either;deal le c j 0 96 53;"
            + "deal lf j g 0 43 19;deal ma j c 0 65 19;deal mb e d 0 3 20 either;deal mc g h 0 91 6 either;"
            + "deal md h c 0 81 48;deal me c i 0 24 38 either;deal mf c j 0 13 60 either;deal na h e 0 50 41 either;"
            + "deal nb j f 0 56 23 either;deal nc j g 0 95 51;deal nd e f 0 30 77 either;deal ne h i 0 97 9 either;"
            + "deal nf b f 0 58 3 either;deal oa i b 0 69 40 either;deal ob g h 0 69 6 either;deal oc b a 0 44 94 either;"
            + "deal od d j 0 9 17 either;deal oe i j 0 37 1 either;deal of g e 0 1 75 either;", 466, 37, 0);
    }

    private static void longRing() {
        Due.sentence("or behind one whose PARTS were behind an earlier one or at first (a RING: of so many rounds)");
        rounds(TEN + "deal ka g b 0 87 10 either;deal kb d f 0 42 26;deal kc i b 0 2 24 either;deal kd d f 0 73 33 either;"
            + "deal ke b e 0 94 46 either;deal kf j d 0 99 12 either;deal la h f 0 58 78 either;deal lb b j 0 61 12 either;"
            + "deal lc d f 0 87 39 either;deal ld c j 0 62 53 either;deal le e g 0 29 8;deal lf d h 0 19 2;"
            + "deal ma e b 0 69 94;deal mb a h 0 38 30 either;deal mc c b 0 80 61 either;deal md f g 0 36 33;"
            + "deal me c h 0 91 44 either;deal mf j f 0 30 81 either;deal na e c 0 36 68 either;deal nb j h 0 62 35 either;"
            + "deal nc d h 0 43 50 either;deal nd h i 0 77 8 either;deal ne c g 0 80 11;deal nf j e 0 4 84;"
            + "deal oa a b 0 9 41 either;deal ob b h 0 3 99 either;deal oc b c 0 90 46;deal od a i 0 72 48 either;"
            + "deal oe g j 0 8 1;deal of d a 0 30 45 either;", 0, -1, 24);
    }

    /** Rounds NONE: as many as the model has. */
    private static void rounds(String text, int from, int rounds, int ring) {
        LendTown x = Due.townOf(text);
        PlainTown plain = new PlainTown();
        plain.town(text);
        int due = plain.rounds(from);
        Due.is("rounds(" + from + ")", rounds == -1 ? due : rounds, x.rounds(from));
        Due.is("rounds of the model", rounds == -1 ? due : rounds, due);
        Due.is("ended(1)", ring, x.ended(1));
        Due.is("ended(0)", plain.ended(0), x.ended(0));
    }

    /** 61 LINES in 893 bytes, and all 30 DEALS done by a BOOK. */
    private static void fullestTown() {
        Due.sentence("at most 900 bytes; 10 PERSONS, 30 DEALS at most");
        StringBuilder text = new StringBuilder(TEN + Texts.limits(10, 9));
        StringBuilder book = new StringBuilder();
        for (int p = 0; p < 10; p++) {
            text.append("part ").append(name(p)).append(" lends;");
        }
        text.append("law life;");
        for (int d = 0; d < 30; d++) {
            String own = d < 16 ? "" + (char) ('k' + d) : named(d - 16);
            text.append("deal ").append(own).append(' ').append(name(d % 5)).append(' ').append(name(5 + d / 5 % 5))
                .append(' ').append(d / 10).append(" 1 2;");
            book.append(own).append(';');
        }
        Due.is("bytes", 893, text.length());
        LendTown x = Due.townOf(text.toString());
        Due.is("its lines", 61, Due.town(x, text.toString()));
        Due.is("told()", 1023, x.told());
        Due.is("book()", -1, Due.book(x, book.toString()));
        Due.is("deals done", 30, x.count(3));
        Due.is("the last one", 1, x.deal(29, 6));
        Due.is("had by a", 6, x.had(0));
        Due.is("once more", 1, x.does(29, 0));
        Due.is("may(0)", 0, x.may(0));
        Due.is("undo()", 29, x.undo());
        Due.is("may(0) then", 1 << 29, x.may(0));
    }
}
