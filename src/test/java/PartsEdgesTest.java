/** Each sentence that names a boundary case of PARTS: who GOES, GAIN, BEST, CLIMB, REST, ROUNDS, ONE, LAWFUL, FEWEST. */
public final class PartsEdgesTest {
    public static void main(String[] args) {
        noSuchParts();
        goes();
        gainUnderLimits();
        gainOfBoth();
        best();
        above();
        climb();
        climbFromTheFirstAgain();
        climbed();
        own();
        rest();
        restsByNumber();
        rounds();
        rings();
        oneByLife();
        oneByYears();
        oneBoundInTime();
        oneFirstOfLikeOnes();
        oneOthers();
        oneByAnotherLaw();
        price();
        loss();
        lawfulOfTwelve();
        lawfulOfLikeOnes();
        lawfulBy();
        fewest();
        Due.end();
    }

    private static void noSuchParts() {
        Due.sentence("PARTS (bits); NONE: no such ones");
        for (int n : new int[] {0, 1, 3, 10}) {
            LendTown x = Due.townOf(Texts.persons(n));
            for (int parts : new int[] {0, (1 << n) - 1}) {
                Due.is("gain", 0, x.gain(parts));
                Due.is("goes", 0, x.goes(parts));
                Due.is("climb", parts, x.climb(parts));
                Due.is("rounds", 1, x.rounds(parts));
                if (n > 0) {
                    Due.is("price", 0, x.price(n - 1, parts));
                    Due.is("loss", 0, x.loss(n - 1, parts));
                    Due.is("own", 0, x.own(n - 1, parts));
                    Due.is("one", 0, x.one(n - 1, parts));
                    Due.is("oneBy", 0, x.oneBy(n - 1, parts, 60));
                }
            }
            for (int parts : new int[] {-1, 1 << n, 1 << 10, -1 << n, Integer.MIN_VALUE, Integer.MAX_VALUE}) {
                Due.is("gain(" + parts + ")", -1, x.gain(parts));
                Due.is("goes(" + parts + ")", -1, x.goes(parts));
                Due.is("climb(" + parts + ")", -1, x.climb(parts));
                Due.is("rounds(" + parts + ")", -1, x.rounds(parts));
                Due.is("price(0, " + parts + ")", -1, x.price(0, parts));
                Due.is("loss(0, " + parts + ")", -1, x.loss(0, parts));
                Due.is("own(0, " + parts + ")", -1, x.own(0, parts));
                Due.is("one(0, " + parts + ")", -1, x.one(0, parts));
                Due.is("oneBy(0, " + parts + ", 1)", -1, x.oneBy(0, parts, 1));
            }
            for (int p : new int[] {-1, n, 10, Integer.MIN_VALUE, Integer.MAX_VALUE}) {
                Due.is("price(" + p + ", 0)", -1, x.price(p, 0));
                Due.is("loss(" + p + ", 0)", -1, x.loss(p, 0));
                Due.is("own(" + p + ", 0)", -1, x.own(p, 0));
                Due.is("one(" + p + ", 0)", -1, x.one(p, 0));
                Due.is("oneBy(" + p + ", 0, 1)", -1, x.oneBy(p, 0, 1));
            }
        }
    }

    private static void goes() {
        Due.sentence("A DEAL GOES by PARTS, if its lender lends and its borrower borrows, or, told 'either', the other way round");
        LendTown x = Due.townOf(Texts.AB + "deal d a b 5 1 1;deal e a b 5 1 1 either;");
        int[] want = {0, 3, 2, 0};
        for (int parts = 0; parts < 4; parts++) {
            Due.is("goes(" + parts + ")", want[parts], x.goes(parts));
        }
        LendTown most = Due.townOf(Texts.AB + Texts.deals(30, 5));
        Due.is("all 30", (1 << 30) - 1, most.goes(1));
        Due.is("none of 30", 0, most.goes(2));
    }

    private static void gainUnderLimits() {
        Due.sentence("GAIN: in each year those DEALS with which nobody passes his limit; all years together");
        String deals = "deal d a b 5 1 0;deal e a b 5 0 2;deal f a b 5 1 2;";
        int[] byLimit = {0, 3, 5, 6, 6};
        for (String who : new String[] {"a", "b"}) {
            for (int limit = 0; limit < byLimit.length; limit++) {
                LendTown x = Due.townOf(Texts.AB + "limit " + who + " " + limit + ";" + deals);
                Due.is("limit " + limit + " of " + who, byLimit[limit], x.gain(1));
            }
        }
        Due.is("without a limit", 6, Due.townOf(Texts.AB + deals).gain(1));
        Due.is("9 DEALS without a limit", 18, Due.townOf(Texts.AB + Texts.deals(9, 5)).gain(1));
        Due.is("10 DEALS without a limit", 18, Due.townOf(Texts.AB + Texts.deals(10, 5)).gain(1));
        LendTown years = Due.townOf(Texts.AB + "limit a 1;deal d a b 5 1 0;deal e a b 6 0 2;deal f a b 6 1 0;deal g a b 0 0 9;deal h a b 59 7 0;");
        Due.is("one in each year", 1 + 2 + 9 + 7, years.gain(1));
        LendTown others = Due.townOf(Texts.ABC + "limit a 1;limit c 2;deal d a b 5 4 0;deal e c b 5 1 0;deal f c b 5 2 0;deal g c b 5 3 0;");
        Due.is("each his own", 4 + 3 + 2, others.gain(5));
    }

    private static void gainOfBoth() {
        Due.sentence("GAIN: those with the greatest gains together (both persons')");
        LendTown x = Due.townOf(Texts.AB + "limit a 1;deal d a b 5 5 0;deal e a b 5 3 3;deal f a b 5 0 5;");
        Due.is("3 and 3", 6, x.gain(1));
        LendTown equal = Due.townOf(Texts.AB + "limit a 1;deal d a b 5 5 0;deal e a b 5 3 2;");
        Due.is("like ones", 5, equal.gain(1));
        LendTown turned = Due.townOf(Texts.AB + "limit b 1;deal d a b 5 5 1 either;deal e b a 5 1 3;");
        Due.is("turned", 6, turned.gain(2));
        LendTown more = Due.townOf(Texts.ABCD + Texts.limits(4, 1) + "deal da a c 5 9 0;deal db a d 5 5 0;deal dc b c 5 0 5;");
        Due.is("two of 5 are more than 9", 10, more.gain(3));
        LendTown less = Due.townOf(Texts.ABCD + Texts.limits(4, 1) + "deal da a c 5 9 0;deal db a d 5 4 0;deal dc b c 5 0 4;");
        Due.is("two of 4 are less than 9", 9, less.gain(3));
    }

    private static void best() {
        Due.sentence("BEST: the PARTS of most GAIN (of like ones the least as bits)");
        LendTown x = Due.townOf(Texts.AB + "deal d a b 5 2 3;deal e b a 5 3 2;");
        Due.is("like ones", 1, x.bestParts());
        Due.is("best", 5, x.best());
        LendTown y = Due.townOf(Texts.AB + "deal d a b 5 2 3;deal e b a 5 3 3;");
        Due.is("one more", 2, y.bestParts());
        Due.is("best", 6, y.best());
        LendTown z = Due.townOf(Texts.ABC + "deal d c b 5 1 0;");
        Due.is("who deals not borrows", 4, z.bestParts());
        LendTown none = Due.townOf(Texts.ABC + "deal d c b 5 0 0;");
        Due.is("no gain", 0, none.bestParts());
        Due.is("best", 0, none.best());
        StringBuilder all = new StringBuilder(Texts.persons(10));
        for (char c = 'b'; c <= 'j'; c++) {
            all.append("deal x").append(c).append(' ').append(c).append(" a 5 1 1;");
        }
        Due.is("all but a lend", 1022, Due.townOf(all.toString()).bestParts());
        Due.is("their gain", 18, Due.townOf(all.toString()).best());
        Due.is("nobody", 0, new LendTown().bestParts());
    }

    private static void above() {
        Due.sentence("above(): How many PARTS have a GAIN of v or more");
        LendTown x = Due.townOf(Texts.AB + "deal d a b 5 2 3;deal e b a 5 3 3;");
        int[][] want = {{Integer.MIN_VALUE, 4}, {-1, 4}, {0, 4}, {1, 2}, {5, 2}, {6, 1}, {7, 0}, {Integer.MAX_VALUE, 0}};
        for (int[] at : want) {
            Due.is("above(" + at[0] + ")", at[1], x.above(at[0]));
        }
        LendTown most = Due.townOf(Texts.persons(10));
        Due.is("all 1024", 1024, most.above(0));
        Due.is("none of 1024", 0, most.above(1));
        LendTown great = Due.townOf(Texts.AB + "deal d a b 5 99 99;deal e a b 6 99 99;");
        Due.is("above(396)", 1, great.above(396));
        Due.is("above(397)", 0, great.above(397));
    }

    private static void climbTo(LendTown x, int from, int to, int changes) {
        Due.is("climb(" + from + ")", to, x.climb(from));
        Due.is("climbed() behind climb(" + from + ")", changes, x.climbed());
    }

    private static void climb() {
        Due.sentence("CLIMB: the first PERSON by whose change alone GAIN is greater changes, till there is none");
        LendTown equal = Due.townOf(Texts.ABC + "deal d a b 5 1 1;");
        climbTo(equal, 1, 1, 0);
        climbTo(equal, 0, 1, 1);
        climbTo(equal, 7, 5, 1);
        LendTown greater = Due.townOf(Texts.ABC + "deal d a b 5 1 1;deal e c b 5 1 0;");
        climbTo(greater, 1, 5, 1);
        climbTo(greater, 0, 5, 2);
        climbTo(greater, 5, 5, 0);
        LendTown first = Due.townOf(Texts.ABC + "deal d a b 5 1 0;deal e c a 5 50 0;");
        climbTo(first, 0, 1, 1);
        climbTo(first, 4, 4, 0);
        LendTown none = Due.townOf(Texts.ABC + "deal d a b 5 0 0;");
        climbTo(none, 0, 0, 0);
        LendTown limits = Due.townOf(Texts.ABC + "limit b 1;deal d a b 5 1 1;deal e c b 5 1 1;");
        climbTo(limits, 1, 1, 0);
    }

    private static void climbFromTheFirstAgain() {
        Due.sentence("CLIMB: and so on from the first one again");
        LendTown x = Due.townOf(Texts.ABCD + "deal da a b 5 5 0;deal db c b 5 4 0;deal dc d b 5 10 0;deal dd b a 5 6 0;deal de a c 5 6 0;");
        // from b and d: a's change is no more (6 for 6), b's is (10 for 6), then a's is (21), ahead of c's
        climbTo(x, 10, 9, 2);
        LendTown back = Due.townOf(Texts.ABC + "deal da a b 5 5 0;deal db b c 5 7 0;deal dc b a 5 1 0;");
        // from a: b changes (7 for 5), then a borrows again (8)
        climbTo(back, 1, 2, 2);
    }

    private static void climbed() {
        Due.sentence("climbed(): How many changes the latest climb() that was not NONE made; 0 ahead of any");
        LendTown x = Due.townOf(Texts.AB + "deal d a b 5 1 1;");
        Due.is("ahead of any", 0, x.climbed());
        Due.is("climb(4)", -1, x.climb(4));
        Due.is("ahead of any that was not NONE", 0, x.climbed());
        climbTo(x, 0, 1, 1);
        Due.is("climb(4)", -1, x.climb(4));
        Due.is("climb(-1)", -1, x.climb(-1));
        Due.is("the latest that was not NONE", 1, x.climbed());
        Due.town(x, "");
        Due.is("a TOWN leaves it", 1, x.climbed());
        climbTo(x, 0, 0, 0);
    }

    private static void own() {
        Due.sentence("OWN gain: what he has of all DEALS that GO (limits count nothing)");
        LendTown x = Due.townOf(Texts.ABC + Texts.limits(3, 0) + "deal d a b 5 1 2;deal e a b 5 3 4;deal f b a 6 50 60;deal g b c 5 7 8 either;");
        Due.is("a lends", 4, x.own(0, 1));
        Due.is("b borrows", 6, x.own(1, 1));
        Due.is("c is in none that GOES", 0, x.own(2, 1));
        Due.is("turned, gains stay: b", 6 + 7, x.own(1, 5));
        Due.is("turned, gains stay: c", 8, x.own(2, 5));
        Due.is("nobody lends", 0, x.own(0, 0));
        Due.is("all lend", 0, x.own(0, 7));
    }

    private static void rests(LendTown x, int... parts) {
        Due.is("how many rest", parts.length, x.rests(-1));
        for (int k = 0; k < parts.length; k++) {
            Due.is("rests(" + k + ")", parts[k], x.rests(k));
        }
        for (int k : new int[] {parts.length, -2, 1024, Integer.MIN_VALUE, Integer.MAX_VALUE}) {
            Due.is("rests(" + k + ")", -1, x.rests(k));
        }
    }

    private static void rest() {
        Due.sentence("At REST: nobody has more of his own by his change alone");
        rests(Due.townOf(Texts.AB + "deal d a b 5 0 5;"), 0, 1, 2);
        rests(Due.townOf(Texts.AB + "deal d a b 5 1 5;"), 1, 2);
        rests(Due.townOf(Texts.AB + "deal d a b 5 5 0;"), 1, 2, 3);
        rests(Due.townOf(Texts.AB + "deal d a b 5 0 0;"), 0, 1, 2, 3);
        rests(Due.townOf(Texts.AB + "limit a 0;deal d a b 5 1 5;"), 1, 2);
        rests(Due.townOf(Texts.ABC + "deal d a b 5 2 0;deal e c a 5 0 2;"), 1, 2, 3, 4, 5, 6);
        Due.sentence("rests(): how many (k NONE), or the k-th (rising). NONE: there is none such");
        rests(new LendTown(), 0);
        rests(Due.townOf("person a 0 5;"), 0, 1);
    }

    private static void restsByNumber() {
        Due.sentence("rests(): NONE: there is none such, of none and of most");
        rests(Due.townOf(Texts.ABC + "deal d a c 1 9 0 either;deal e b a 2 9 0 either;deal f c b 3 9 0 either;"));
        LendTown all = Due.townOf(Texts.persons(10));
        Due.is("how many", 1024, all.rests(-1));
        Due.is("the first", 0, all.rests(0));
        Due.is("the last", 1023, all.rests(1023));
        Due.is("one more", -1, all.rests(1024));
    }

    private static void roundsTo(LendTown x, int from, int many, int parts, int ring) {
        Due.is("rounds(" + from + ")", many, x.rounds(from));
        Due.is("ended(0) behind rounds(" + from + ")", parts, x.ended(0));
        Due.is("ended(1) behind rounds(" + from + ")", ring, x.ended(1));
    }

    private static void rounds() {
        Due.sentence("ROUNDS: each changes, if he has more then; they end behind a round without a change (at REST)");
        LendTown x = Due.townOf(Texts.AB + "deal d a b 5 0 5;");
        roundsTo(x, 0, 1, 0, 0);
        roundsTo(x, 1, 1, 1, 0);
        roundsTo(x, 2, 1, 2, 0);
        roundsTo(x, 3, 2, 1, 0);
        LendTown then = Due.townOf(Texts.AB + "deal d a b 5 1 1 either;");
        roundsTo(then, 0, 2, 1, 0);
        roundsTo(then, 3, 2, 2, 0);
        roundsTo(new LendTown(), 0, 1, 0, 0);
        LendTown chain = Due.townOf(Texts.ABC + "deal d c b 5 1 2 either;deal e b a 5 1 2 either;");
        // a wants to be unlike b (2), b unlike c (2) rather than a (1), c unlike b (1): round 1 to 3, round 2 to 2
        roundsTo(chain, 0, 3, 2, 0);
        roundsTo(chain, 7, 3, 5, 0);
        Due.sentence("ended(): NONE for another what, or ahead of any");
        LendTown y = Due.townOf(Texts.AB + "deal d a b 5 0 5;");
        Due.is("ended(0) ahead of any", -1, y.ended(0));
        Due.is("ended(1) ahead of any", -1, y.ended(1));
        Due.is("rounds(4)", -1, y.rounds(4));
        Due.is("ended(0) ahead of any that was not NONE", -1, y.ended(0));
        roundsTo(y, 3, 2, 1, 0);
        Due.is("rounds(-1)", -1, y.rounds(-1));
        Due.is("the latest that was not NONE", 1, y.ended(0));
        for (int what : new int[] {-1, 2, Integer.MIN_VALUE, Integer.MAX_VALUE}) {
            Due.is("ended(" + what + ")", -1, y.ended(what));
        }
    }

    private static void rings() {
        Due.sentence("ROUNDS: or behind one whose PARTS were behind an earlier one or at first (a RING: of so many rounds)");
        LendTown x = Due.townOf(Texts.ABC + "deal d a c 1 9 0 either;deal e b a 2 9 0 either;deal f c b 3 9 0 either;");
        // rounds lead from 0 to 5, from 5 to 2, from 2 to 5
        roundsTo(x, 5, 2, 5, 2);
        roundsTo(x, 2, 2, 2, 2);
        roundsTo(x, 0, 3, 5, 2);
        roundsTo(x, 7, 3, 2, 2);
        roundsTo(x, 5, 2, 5, 2);
        Due.town(x, Texts.ABC + "deal d a c 1 9 0 either;deal e b a 2 9 0 either;");
        Due.is("a TOWN leaves ended(0)", 5, x.ended(0));
        Due.is("a TOWN leaves ended(1)", 2, x.ended(1));
        roundsTo(x, 0, 2, 1, 0);
    }

    private static void row(LendTown x, int from, int... want) {
        for (int i = 0; i < want.length; i++) {
            Due.is("oneIs(" + (from + i) + ")", want[i], x.oneIs(from + i));
        }
    }

    /** b borrows of a in 0 (5 for him; nobody is bound ahead of 0) and lends to c in that year (7 for him). */
    private static LendTown twoSided(String law, int year) {
        return Due.townOf(Texts.ABC + law + "deal d a b 0 1 5;deal e b c " + year + " 7 1;");
    }

    private static void oneByLife() {
        Due.sentence("ONE: who lends (borrows) in a year and was free is bound to it: by 'life' in all later years");
        for (int year : new int[] {0, 1, 59}) {
            LendTown x = twoSided("", year);
            Due.is("one", 7, x.one(1, 1));
            Due.is("lends in " + year, 1, x.oneIs(year));
        }
        LendTown ends = Due.townOf(Texts.ABC + "law life;deal d a b 0 1 5;deal e b c 59 4 1;deal f b c 0 0 0;");
        Due.is("one", 5, ends.one(1, 1));
        Due.is("borrows in 0", 2, ends.oneIs(0));
        Due.is("nothing in 1", 0, ends.oneIs(1));
        Due.is("bound in 59", 0, ends.oneIs(59));
        LendTown more = Due.townOf(Texts.ABC + "deal d b c 7 3 0;deal e b c 9 4 0;deal f a b 8 0 6;deal g b c 59 1 0;");
        Due.is("lends three times", 8, more.one(1, 1));
        row(more, 6, 0, 1, 0, 1, 0);
        Due.is("lends in the last year", 1, more.oneIs(59));
    }

    private static void oneByYears() {
        Due.sentence("ONE: by 'years' N in N years from that one on, in which he can also do nothing, but not the other; then he is free");
        LendTown bound = twoSided("law years 3;", 2);
        Due.is("2 is the last year of three", 7, bound.one(1, 1));
        row(bound, 0, 0, 0, 1, 0);
        LendTown free = twoSided("law years 3;", 3);
        Due.is("free in 3", 12, free.one(1, 1));
        row(free, 0, 2, 0, 0, 1, 0);
        LendTown each = twoSided("law years 1;", 1);
        Due.is("year by year", 12, each.one(1, 1));
        row(each, 0, 2, 1, 0);
        Due.is("both in one year", 7, twoSided("law years 1;", 0).one(1, 1));
        String ends = "deal d a b 0 1 5;deal e b c 59 7 1;";
        Due.is("free in 59", 12, Due.townOf(Texts.ABC + "law years 59;" + ends).one(1, 1));
        Due.is("bound in 59", 7, Due.townOf(Texts.ABC + "law years 60;" + ends).one(1, 1));
        LendTown nothing = Due.townOf(Texts.ABC + "law years 4;deal d b c 5 3 0;deal e a b 6 0 2;deal f b c 7 2 0;");
        Due.is("nothing in 6", 5, nothing.one(1, 1));
        row(nothing, 4, 0, 1, 0, 1, 0);
    }

    private static void oneBoundInTime() {
        Due.sentence("ONE: the most of all rows of years (years 0 to 59)");
        LendTown in = Due.townOf(Texts.ABC + "law years 3;deal d b c 1 4 0;deal e a b 3 0 4;");
        Due.is("bound from 0 on he is free in 3", 8, in.one(1, 1));
        row(in, 0, 1, 1, 0, 2, 0);
        LendTown late = Due.townOf(Texts.ABC + "law years 3;deal d b c 0 4 0;deal e a b 2 0 4;");
        Due.is("nobody is bound ahead of 0", 4, late.one(1, 1));
        row(late, 0, 0, 0, 2, 0);
        LendTown end = Due.townOf(Texts.ABC + "law years 3;deal d b c 58 4 0;deal e a b 59 0 5;");
        Due.is("bound from 56 on he is free in 59", 9, end.one(1, 1));
        row(end, 55, 0, 1, 0, 1, 2);
    }

    private static void oneFirstOfLikeOnes() {
        Due.sentence("ONE: of like ones the first (year by year from 0: nothing, lends, borrows)");
        LendTown later = Due.townOf(Texts.ABC + "deal d b c 5 4 0;deal e a b 6 0 4;");
        Due.is("one", 4, later.one(1, 1));
        row(later, 4, 0, 0, 2);
        LendTown greater = Due.townOf(Texts.ABC + "deal d b c 5 5 0;deal e a b 6 0 4;");
        Due.is("one", 5, greater.one(1, 1));
        row(greater, 4, 0, 1, 0);
        LendTown same = Due.townOf(Texts.ABC + "deal d b c 5 4 0;deal e a b 5 0 4;");
        Due.is("one", 4, same.one(1, 1));
        row(same, 4, 0, 1, 0);
        LendTown more = Due.townOf(Texts.ABC + "deal d b c 5 4 0;deal e a b 5 0 5;");
        Due.is("one", 5, more.one(1, 1));
        row(more, 4, 0, 2, 0);
        LendTown none = Due.townOf(Texts.ABC + "deal d b c 5 0 9;");
        Due.is("no gain", 0, none.one(1, 1));
        for (int year = 0; year < 60; year++) {
            Due.is("nothing in " + year, 0, none.oneIs(year));
        }
    }

    private static void oneOthers() {
        Due.sentence("ONE: others by PARTS for life; what is his own of the year's DEALS that GO so (limits count nothing)");
        LendTown x = Due.townOf(Texts.ABC + Texts.limits(3, 0) + "deal d a b 5 1 5;deal e b c 6 7 1;deal f b a 6 2 0 either;deal g a c 6 50 50;");
        Due.is("a lends, c borrows", 7, x.one(1, 1));
        Due.is("his own bit", 7, x.one(1, 3));
        Due.is("nobody lends", 9, x.one(1, 0));
        Due.is("a and c lend", 5 + 2, x.one(1, 5));
        Due.is("c lends", 2, x.one(1, 4));
        Due.is("a and c lend, his own bit", 5 + 2, x.one(1, 7));
        row(x, 5, 2, 2, 0);
        Due.is("c lends, his own bit", 2, x.one(1, 6));
        row(x, 5, 0, 1, 0);
        LendTown dead = Due.townOf("person a 0 59;person b 5 5;deal d a b 5 1 5;");
        Due.is("he lives one year", 5, dead.one(1, 1));
    }

    private static void oneByAnotherLaw() {
        Due.sentence("oneBy(): as if the law were 'years' n (0: 'life'; to 60); NONE, too: no such ones");
        LendTown x = twoSided("law years 3;", 3);
        Due.is("one", 12, x.one(1, 1));
        int[][] want = {{0, 7}, {1, 12}, {3, 12}, {4, 7}, {59, 7}, {60, 7}, {61, -1}, {-1, -1}, {Integer.MIN_VALUE, -1},
            {Integer.MAX_VALUE, -1}};
        for (int[] at : want) {
            Due.is("oneBy(1, 1, " + at[0] + ")", at[1], x.oneBy(1, 1, at[0]));
        }
        Due.sentence("oneBy(): oneIs() tells of one() alone");
        row(x, 0, 2, 0, 0, 1, 0);
        Due.is("the law is as told", 3, x.count(2));
        LendTown y = twoSided("law years 3;", 3);
        y.oneBy(1, 1, 3);
        Due.is("ahead of any one()", -1, y.oneIs(5));
        String ends = "deal d a b 0 1 5;deal e b c 59 7 1;";
        LendTown z = Due.townOf(Texts.ABC + ends);
        Due.is("by 59", 12, z.oneBy(1, 1, 59));
        Due.is("by 60", 7, z.oneBy(1, 1, 60));
        Due.is("by life", 7, z.oneBy(1, 1, 0));
        Due.sentence("oneIs(): by the latest one() that was not NONE; NONE: no such year, or ahead of any");
        Due.is("ahead of any", -1, z.oneIs(0));
        Due.is("one(3, 1)", -1, z.one(3, 1));
        Due.is("ahead of any that was not NONE", -1, z.oneIs(0));
        z.one(1, 1);
        Due.is("year 0", 0, z.oneIs(0));
        Due.is("year 59", 1, z.oneIs(59));
        for (int year : new int[] {-1, 60, Integer.MIN_VALUE, Integer.MAX_VALUE}) {
            Due.is("oneIs(" + year + ")", -1, z.oneIs(year));
        }
        Due.is("one(1, 8)", -1, z.one(1, 8));
        Due.is("the latest that was not NONE", 1, z.oneIs(59));
        Due.town(z, "");
        Due.is("a TOWN leaves it", 1, z.oneIs(59));
    }

    private static void price() {
        Due.sentence("PRICE of a PERSON by PARTS: how much greater GAIN is with his limit one more");
        String deals = "deal d a b 5 1 0;deal e a b 5 0 2;deal f a b 5 1 2;deal g a b 6 1 0;deal h a b 6 1 1;";
        int[] byLimit = {3 + 2, 2 + 1, 1, 0, 0};
        for (int limit = 0; limit < byLimit.length; limit++) {
            LendTown x = Due.townOf(Texts.AB + "limit a " + limit + ";" + deals);
            Due.is("limit " + limit, byLimit[limit], x.price(0, 1));
            Due.is("of the other one", 0, x.price(1, 1));
            Due.is("the limit is as told", limit, x.person(0, 2));
            Due.is("again", byLimit[limit], x.price(0, 1));
        }
        Due.is("limit 9, 9 DEALS", 0, Due.townOf(Texts.AB + Texts.deals(9, 5)).price(0, 1));
        Due.is("limit 9 of both, 10 DEALS", 0, Due.townOf(Texts.AB + Texts.deals(10, 5)).price(0, 1));
        LendTown ten = Due.townOf(Texts.ABC + Texts.deals(9, 5) + "deal z c b 5 1 0;deal y c b 5 0 0;");
        Due.is("a tenth", 1, ten.price(1, 5));
        Due.is("nothing GOES", 0, ten.price(1, 7));
    }

    private static void loss() {
        Due.sentence("LOSS: how much less it is with his limit 0");
        String deals = "deal d a b 5 1 0;deal e a b 5 0 2;deal f a b 6 1 2;deal g c b 6 4 0;";
        LendTown x = Due.townOf(Texts.ABC + deals);
        Due.is("a", 6, x.loss(0, 5));
        Due.is("b", 10, x.loss(1, 5));
        Due.is("c", 4, x.loss(2, 5));
        Due.is("c does not lend", 0, x.loss(2, 1));
        Due.is("the limit is as told", 9, x.person(0, 2));
        Due.is("gain", 10, x.gain(5));
        LendTown zero = Due.townOf(Texts.ABC + "limit a 0;" + deals);
        Due.is("limit 0", 0, zero.loss(0, 5));
        LendTown instead = Due.townOf(Texts.ABC + "limit b 1;" + deals);
        Due.is("c takes a's place", 2, instead.loss(0, 5));
        Due.is("a takes c's place", 1, instead.loss(2, 5));
    }

    private static void lawfulOfTwelve() {
        Due.sentence("LAWFUL: TOWNS of 12 DEALS at most; NONE: more than 12 DEALS");
        LendTown twelve = Due.townOf(Texts.AB + Texts.deals(11, 5) + "deal z a b 6 1 1;");
        Due.is("12 DEALS", 18 + 2, twelve.lawful());
        Due.is("the last one", 1, twelve.lawfulBy(11));
        Due.is("no such one", -1, twelve.lawfulBy(12));
        Due.is("none is done", 0, twelve.count(3));
        LendTown thirteen = Due.townOf(Texts.AB + Texts.deals(13, 5));
        Due.is("13 DEALS", -1, thirteen.lawful());
        Due.is("ahead of any that was not NONE", -1, thirteen.lawfulBy(0));
        Due.is("30 DEALS", -1, Due.townOf(Texts.AB + Texts.deals(30, 5)).lawful());
        LendTown none = Due.townOf(Texts.AB);
        Due.is("no DEALS", 0, none.lawful());
        Due.is("no such one", -1, none.lawfulBy(0));
        Due.sentence("LAWFUL: from nothing done on");
        LendTown done = Due.townOf(Texts.AB + "deal d a b 5 1 1;deal e b a 6 2 2;");
        done.does(0, 0);
        Due.is("lawful", 4, done.lawful());
        Due.is("what was done stays", 1, done.count(3));
        Due.is("d", 1, done.deal(0, 6));
    }

    private static void lawful(String deals, int gains, int... ways) {
        LendTown x = Due.townOf(Texts.ABC + deals);
        Due.is("lawful() of " + deals, gains, x.lawful());
        for (int d = 0; d < ways.length; d++) {
            Due.is("lawfulBy(" + d + ") of " + deals, ways[d], x.lawfulBy(d));
        }
    }

    private static void lawfulOfLikeOnes() {
        Due.sentence("LAWFUL: of like ones the first (in that order: not done, as told, TURNED)");
        lawful("deal d a b 5 0 0 either;", 0, 0);
        lawful("deal d a b 5 0 1 either;", 1, 1);
        lawful("deal d a b 5 1 1;deal e b a 5 1 1;", 2, 0, 1);
        lawful("deal d a b 5 1 2;deal e b a 5 1 1;", 3, 1, 0);
        lawful("deal d a b 5 1 1 either;deal e b a 5 1 1;", 4, 2, 1);
        lawful("deal d a b 6 1 1;deal e b a 5 1 1;", 2, 1, 0);
        lawful("deal d a b 5 1 1;deal e b a 6 1 1;", 2, 0, 1);
        Due.sentence("LAWFUL: so that none is WRONG");
        lawful("limit a 1;deal d a b 5 1 1;deal e a b 5 2 1;deal f a b 6 1 1;", 5, 0, 1, 1);
        lawful("limit a 0;deal d a b 5 1 1;deal e a b 5 2 1;", 0, 0, 0);
        lawful("law years 1;deal d a b 5 1 1;deal e b a 6 1 1;", 4, 1, 1);
        lawful("law years 2;deal d a b 5 1 1;deal e b a 6 1 1;deal f b a 7 1 1;", 4, 0, 1, 1);
        lawful("law years 2;deal d a b 5 1 1;deal e b a 6 1 0;deal f b a 7 1 1;", 4, 1, 0, 1);
        lawful("deal d a b 5 1 1;deal e c b 5 1 1;deal f b c 5 3 2;", 5, 0, 0, 1);
        lawful("deal d a b 5 1 1;deal e c b 5 1 2;deal f b c 5 3 2;", 5, 0, 0, 1);
        lawful("deal d a b 5 1 2;deal e c b 5 1 2;deal f b c 5 3 2;", 6, 1, 1, 0);
    }

    private static void lawfulBy() {
        Due.sentence("lawfulBy(): by the latest lawful() that was not NONE; NONE: no such one of then, or ahead of any");
        LendTown x = Due.townOf(Texts.AB + "deal d a b 5 1 1;deal e a b 6 0 0;");
        Due.is("ahead of any", -1, x.lawfulBy(0));
        Due.is("lawful", 2, x.lawful());
        Due.is("d", 1, x.lawfulBy(0));
        Due.is("e", 0, x.lawfulBy(1));
        for (int d : new int[] {-1, 2, 12, 30, Integer.MIN_VALUE, Integer.MAX_VALUE}) {
            Due.is("lawfulBy(" + d + ")", -1, x.lawfulBy(d));
        }
        Due.town(x, Texts.AB + Texts.deals(13, 5));
        Due.is("13 DEALS", -1, x.lawful());
        Due.is("d of then", 1, x.lawfulBy(0));
        Due.is("no third one then", -1, x.lawfulBy(2));
        Due.town(x, "");
        Due.is("of then", 1, x.lawfulBy(0));
        Due.is("lawful", 0, x.lawful());
        Due.is("no such one now", -1, x.lawfulBy(0));
    }

    private static void fewest() {
        Due.sentence("FEWEST: the fewest lenders (then the least set as bits)");
        Due.is("nobody", 0, new LendTown().fewest());
        Due.is("no DEALS", 0, Due.townOf(Texts.ABC).fewest());
        Due.is("either of two", 1, Due.townOf(Texts.AB + "deal d a b 5 0 0 either;").fewest());
        Due.is("the second alone", 2, Due.townOf(Texts.AB + "deal d b a 5 0 0;").fewest());
        Due.is("one of many bits ahead of two of few", 4, Due.townOf(Texts.ABC + "deal d c a 5 0 0;deal e c b 5 0 0;").fewest());
        LendTown two = Due.townOf(Texts.ABCD + "deal da a b 5 0 0 either;deal db c d 5 0 0 either;");
        Due.is("the least of four pairs", 5, two.fewest());
        Due.sentence("FEWEST: each other PERSON who is in some DEAL has one in which a lender lends to him (as told, or, told 'either', TURNED)");
        Due.is("as told alone", 3, Due.townOf(Texts.ABC + "deal d a c 5 0 0;deal e b c 5 0 0;").fewest());
        Due.is("turned", 4, Due.townOf(Texts.ABC + "deal d a c 5 0 0 either;deal e b c 5 0 0 either;").fewest());
        Due.is("one turned", 3, Due.townOf(Texts.ABC + "deal d a c 5 0 0;deal e b c 5 0 0 either;").fewest());
        LendTown three = Due.townOf(Texts.ABCD + "deal da a c 5 0 0;deal db b c 5 0 0 either;deal dc d c 5 0 0 either;");
        Due.is("two turned", 1 | 4, three.fewest());
        Due.is("round three, as told", 3, Due.townOf(Texts.ABC + "deal d a b 5 0 0;deal e b c 5 0 0;deal f c a 5 0 0;").fewest());
        Due.is("round three, one either", 2, Due.townOf(Texts.ABC + "deal d a b 5 0 0 either;deal e b c 5 0 0;deal f c a 5 0 0;").fewest());
        Due.sentence("FEWEST: and nobody lends who is in no DEAL");
        Due.is("a is in none", 2, Due.townOf(Texts.ABC + "deal d b c 5 0 0 either;").fewest());
        LendTown all = Due.townOf(Texts.persons(10) + "deal xa j i 5 0 0;");
        Due.is("the last one", 512, all.fewest());
    }
}
