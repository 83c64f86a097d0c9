/** Each sentence that names a boundary case of DEALS done: a BOOK, WRONG, what one IS, BETWEEN, RUN. */
public final class BookEdgesTest {
    /** By this seed the first two draws of 4 are 0. */
    private static final int NONE_COMES = 89;
    private static final String TWO = Texts.AB + "deal d a b 5 1 1;deal e a b 6 1 1 either;";

    public static void main(String[] args) {
        turned();
        bookBytes();
        bookLines();
        bookFaults();
        firstWrongLine();
        wrongDone();
        wrongTurned();
        wrongYear();
        wrongLender();
        wrongBorrower();
        wrongLimit();
        leastWrong();
        isByLife();
        isByYears();
        isByOneThatFoundHimNothing();
        isAtTheLastYears();
        betweenLives();
        betweenNothing();
        betweenDeals();
        betweenOthers();
        betweenLimits();
        runDraws();
        runOrder();
        runSeeds();
        runFromNothing();
        Due.end();
    }

    private static void turned() {
        Due.sentence("A DEAL TURNED (if it is told 'either'): the other one lends; the gains stay with the persons");
        LendTown x = Due.townOf(Texts.AB + "deal d a b 5 30 4 either;deal e a b 6 1 2;");
        Due.is("turned", 0, x.does(0, 1));
        Due.is("a", 2, x.is(0, 5));
        Due.is("b", 1, x.is(1, 5));
        Due.is("a has", 30, x.had(0));
        Due.is("b has", 4, x.had(1));
        Due.is("not 'either'", 2, x.does(1, 1));
        LendTown told = Due.townOf(Texts.AB + "deal d a b 5 30 4 either;");
        Due.is("as told", 0, told.does(0, 0));
        Due.is("a", 1, told.is(0, 5));
        Due.is("b", 2, told.is(1, 5));
        Due.is("a has", 30, told.had(0));
        Due.is("b has", 4, told.had(1));
    }

    private static void isBook(LendTown x, String text, int answer, int why, int done) {
        Due.is("book of '" + text + "'", answer, Due.book(x, text));
        Due.is("its why", why, x.why());
        Due.is("its fault", 0, x.fault());
        Due.is("done by it", done, x.count(3));
        Due.is("tape behind it", 0, x.count(4));
    }

    /** What was done, in its order, stays behind a FAULT. */
    private static void fault(String text, int place, int kind) {
        LendTown x = Due.townOf(TWO + "law years 1;");
        x.does(0, 0);
        x.does(1, 1);
        Due.is("book of '" + text + "'", -2 - place, Due.book(x, text));
        Due.is("its fault", kind, x.fault());
        Due.is("its why", 0, x.why());
        Due.is("tape behind it", 0, x.count(4));
        Due.is("done stays", 2, x.count(3));
        Due.is("d stays", 1, x.deal(0, 6));
        Due.is("e stays", 2, x.deal(1, 6));
        Due.is("e was the last one", 1, x.undo());
        Due.is("d is done", 1, x.deal(0, 6));
    }

    private static void fault(String marked, int kind) {
        int place = marked.indexOf('^');
        fault(marked.substring(0, place) + marked.substring(place + 1), place, kind);
    }

    private static void bookBytes() {
        Due.sentence("A BOOK is a text of at most 600 bytes");
        LendTown x = Due.townOf(TWO);
        isBook(x, Texts.upTo(599, "d;"), -1, 0, 1);
        isBook(x, Texts.upTo(600, "d;e;"), -1, 0, 2);
        isBook(x, Texts.blanks(598) + "d;", -1, 0, 1);
        isBook(x, Texts.blanks(600), -1, 0, 0);
        fault(Texts.upTo(601, "d;"), 600, 1);
        fault(Texts.blanks(599) + "d;", 600, 1);
        fault(Texts.blanks(601), 600, 1);
        fault(Texts.upTo(940, "d;"), 600, 1);
        fault(Texts.upTo(600, "d"), 600, 1);
        fault(Texts.upTo(599, "d"), 599, 1);
        fault(Texts.upTo(599, "d;") + "x;", 599, 3);
        fault(Texts.upTo(600, "d;") + "x;", 600, 1);
        fault(Texts.upTo(599, "d") + "turned;", 600, 1);
        fault(Texts.upTo(599, "d") + "turnex;", 599, 1);
        fault(Texts.upTo(600, "d") + "turnex;", 600, 1);
        fault(Texts.upTo(599, "d;") + "e5", 599, 1);
        fault(Texts.upTo(599, "d;".repeat(40)) + "e", 599, 4);
        fault(Texts.upTo(600, "d;".repeat(40)) + "e", 600, 1);
        fault(Texts.upTo(940, "x;"), 0, 3);
    }

    private static void bookLines() {
        Due.sentence("40 LINES at most: FAULT 4 (a 41st: at its DEAL)");
        LendTown x = Due.townOf(TWO);
        isBook(x, "d;".repeat(39), 1, 1, 1);
        isBook(x, "d;".repeat(40), 1, 1, 1);
        isBook(x, "d turned;".repeat(40), 0, 2, 0);
        fault("d;".repeat(40) + "^e;", 4);
        fault("d;".repeat(40) + "^d", 4);
        fault("d;".repeat(40) + " \n^e turned;", 4);
        fault("d;".repeat(40) + "^e;x;", 4);
        Due.sentence("FAULTS, of one TOKEN the least: in a BOOK");
        fault("d;".repeat(40) + "^x;", 3);
        fault("d;".repeat(40) + "^a;", 3);
        fault("d;".repeat(40) + "^turned;", 1);
        fault("d;".repeat(40) + "^e5;", 1);
        fault("d;".repeat(40) + "^;", 1);
        fault("d;".repeat(39) + "^x;e;e;", 3);
    }

    private static void bookFaults() {
        Due.sentence("A BOOK: { DEAL [ 'turned' ] ; }: FAULTS 1, 3");
        isBook(Due.townOf(TWO), "", -1, 0, 0);
        isBook(Due.townOf(TWO), "d;e;", -1, 0, 2);
        isBook(Due.townOf(TWO), " d\n;e turned ; ", 1, 4, 1);
        isBook(Due.townOf(TWO), "\ne\nturned\n; ", -1, 0, 1);
        fault("^;", 1);
        fault("d;^;", 1);
        fault("d^", 1);
        fault("d turned^", 1);
        fault("d turned \n^", 1);
        fault("d ^e;", 1);
        fault("d ^either;", 1);
        fault("d turned ^turned;", 1);
        fault("^turned d;", 1);
        fault("^person;", 1);
        fault("^borrows;", 1);
        fault("^5;", 1);
        fault("d;^D;", 1);
        fault("d;^.", 1);
        fault("d^.", 1);
        fault("^dd;", 3);
        fault("d;^a;", 3);
        fault("^b;", 3);
        fault("d;e;^f", 3);
        fault("^e5;", 1);
        Due.is("no DEALS, none told", -2, Due.book(new LendTown(), "d;"));
    }

    private static void firstWrongLine() {
        Due.sentence("book(): done from nothing on: the first LINE that is WRONG (what is done ahead of it stays done); NONE: none");
        LendTown x = Due.townOf(TWO + "deal f b a 7 1 1;deal g a b 8 1 1;");
        isBook(x, "d;e;", -1, 0, 2);
        isBook(x, "d;e;g;", -1, 0, 3);
        isBook(x, "f;e;g;", 1, 3, 1);
        Due.is("f alone", 1, x.deal(2, 6));
        Due.is("g behind it is not done", 0, x.deal(3, 6));
        isBook(x, "d turned;e;", 0, 2, 0);
        isBook(x, "d;e;f;", 2, 4, 2);
        isBook(x, "d;e;g;g;", 3, 1, 3);
        Due.sentence("fault(): The kind of the FAULT of the latest town() or book(); 0 without one and ahead of any");
        Due.is("no FAULT, though WRONG", 0, x.fault());
        Due.is("book", -2, Due.book(x, "x;"));
        Due.is("fault", 3, x.fault());
        Due.is("why", 0, x.why());
        Due.is("town", -1, Due.town(x, "."));
        Due.is("fault", 1, x.fault());
        Due.is("book", -1, Due.book(x, "d;"));
        Due.is("fault", 0, x.fault());
        Due.is("town", -12, Due.town(x, "person a 5 4;"));
        Due.is("fault", 2, x.fault());
        Due.is("town", 0, Due.town(x, ""));
        Due.is("fault", 0, x.fault());
        Due.sentence("why(): Why it was WRONG in the latest book(); 0: it was not");
        LendTown y = Due.townOf(TWO);
        Due.is("ahead of any", 0, y.why());
        isBook(y, "e;d;", 1, 3, 1);
        Due.is("does, WRONG for another cause", 1, y.does(1, 0));
        Due.is("why", 3, y.why());
        Due.town(y, TWO);
        Due.is("a TOWN leaves it", 3, y.why());
        isBook(y, "d;", -1, 0, 1);
    }

    private static void wrongDone() {
        Due.sentence("WRONG 1 it was done");
        LendTown x = Due.townOf(TWO);
        Due.is("first", 0, x.does(1, 0));
        Due.is("again", 1, x.does(1, 0));
        Due.is("again, turned", 1, x.does(1, 1));
        Due.is("done", 1, x.count(3));
        Due.is("as told still", 1, x.deal(1, 6));
        x.undo();
        Due.is("undone it may be", 0, x.does(1, 1));
    }

    private static void wrongTurned() {
        Due.sentence("WRONG 2 it is turned and not 'either'");
        LendTown x = Due.townOf(TWO);
        Due.is("not 'either'", 2, x.does(0, 1));
        Due.is("none is done", 0, x.count(3));
        Due.is("nobody is bound", 0, x.is(0, 5));
        Due.is("not turned", 0, x.does(0, 0));
        LendTown y = Due.townOf(TWO);
        Due.is("'either'", 0, y.does(1, 1));
        Due.is("turned", 2, y.deal(1, 6));
    }

    private static void wrongYear() {
        Due.sentence("WRONG 3 its year is ahead of the last one's");
        LendTown x = Due.townOf(Texts.AB + "deal d a b 5 1 1;deal e a b 5 1 1;deal f a b 6 1 1;deal g a b 4 1 1;deal h a b 0 1 1;");
        Due.is("the first one", 0, x.does(0, 0));
        Due.is("a year ahead", 3, x.does(3, 0));
        Due.is("far ahead", 3, x.does(4, 0));
        Due.is("the same year", 0, x.does(1, 0));
        Due.is("a year behind", 0, x.does(2, 0));
        Due.is("done", 3, x.count(3));
        x.undo();
        x.undo();
        x.undo();
        Due.is("with none done", 0, x.does(4, 0));
        Due.is("4 behind 0", 0, x.does(3, 0));
    }

    private static void wrongLender() {
        Due.sentence("WRONG 4 who would lend is a borrower");
        String deals = "deal d a b 5 1 1;deal e b c 7 1 1;deal f b c 8 1 1;deal g c b 7 1 1 either;";
        LendTown x = Due.townOf(Texts.ABC + "law years 3;" + deals);
        x.does(0, 0);
        Due.is("b borrowed in 5", 4, x.does(1, 0));
        Due.is("turned b would lend", 4, x.does(3, 1));
        Due.is("none more is done", 1, x.count(3));
        Due.is("free in 8", 0, x.does(2, 0));
        LendTown y = Due.townOf(Texts.ABC + deals);
        y.does(0, 0);
        Due.is("for life", 4, y.does(2, 0));
        Due.is("to borrow again", 0, y.does(3, 0));
    }

    private static void wrongBorrower() {
        Due.sentence("WRONG 5 who would borrow is a lender");
        String deals = "deal d a b 5 1 1;deal e c a 7 1 1;deal f c a 8 1 1;deal g a c 7 1 1 either;";
        LendTown x = Due.townOf(Texts.ABC + "law years 3;" + deals);
        x.does(0, 0);
        Due.is("a lent in 5", 5, x.does(1, 0));
        Due.is("turned a would borrow", 5, x.does(3, 1));
        Due.is("none more is done", 1, x.count(3));
        Due.is("free in 8", 0, x.does(2, 0));
        LendTown y = Due.townOf(Texts.ABC + deals);
        y.does(0, 0);
        Due.is("for life", 5, y.does(2, 0));
        Due.is("to lend again", 0, y.does(3, 0));
    }

    private static void wrongLimit() {
        Due.sentence("WRONG 6 one of both did as many DEALS in that year as his limit");
        String deals = "deal d a b 5 1 1;deal e a b 5 1 1;deal f a b 5 1 1;deal g a b 6 1 1;deal h b a 5 1 1 either;";
        for (String who : new String[] {"a", "b"}) {
            LendTown x = Due.townOf(Texts.AB + "limit " + who + " 2;" + deals);
            Due.is("none yet", 0, x.does(0, 0));
            Due.is("one of two", 0, x.does(1, 0));
            Due.is("two of two", 6, x.does(2, 0));
            Due.is("two of two, turned", 6, x.does(4, 1));
            Due.is("done", 2, x.count(3));
            Due.is("another year", 0, x.does(3, 0));
            LendTown zero = Due.townOf(Texts.AB + "limit " + who + " 0;" + deals);
            Due.is("limit 0", 6, zero.does(0, 0));
            Due.is("none is done", 0, zero.count(3));
            LendTown one = Due.townOf(Texts.AB + "limit " + who + " 1;" + deals);
            Due.is("limit 1", 0, one.does(0, 0));
            Due.is("as many", 6, one.does(1, 0));
        }
        for (String told : new String[] {"", "limit a 9;", "limit b 9;"}) {
            LendTown nine = Due.townOf(Texts.AB + told + Texts.deals(10, 5));
            for (int d = 0; d < 9; d++) {
                Due.is("the nine of limit 9", 0, nine.does(d, 0));
            }
            Due.is("the tenth", 6, nine.does(9, 0));
        }
    }

    private static void leastWrong() {
        Due.sentence("WRONG, the least, of a next DEAL");
        LendTown x = Due.townOf(Texts.ABCD + "limit d 1;deal dd a b 5 1 1;deal e c b 4 1 1;deal f b a 5 1 1;deal g a d 5 1 1;"
            + "deal h b d 5 1 1;deal i c d 5 1 1;deal j d a 5 1 1;deal k b a 4 1 1;deal l d a 5 1 1 either;deal m c d 5 1 1 either;");
        x.does(0, 0);
        x.does(3, 0);
        Due.is("1 ahead of 2", 1, x.does(0, 1));
        Due.is("2 ahead of 3", 2, x.does(1, 1));
        Due.is("2 ahead of 4", 2, x.does(4, 1));
        Due.is("3 ahead of 4", 3, x.does(7, 0));
        Due.is("4 ahead of 5", 4, x.does(2, 0));
        Due.is("4 ahead of 6", 4, x.does(4, 0));
        Due.is("4 ahead of 5 and 6", 4, x.does(6, 0));
        Due.is("6 alone", 6, x.does(5, 0));
        Due.is("6 alone, turned", 6, x.does(8, 1));
        Due.is("4 turned", 4, x.does(9, 1));
        LendTown y = Due.townOf(Texts.ABC + "limit c 1;deal dd a b 5 1 1;deal e b c 5 1 1 either;deal f c a 5 1 1;deal g c b 5 1 1;");
        y.does(0, 0);
        y.does(3, 0);
        Due.is("5 ahead of 6", 5, y.does(2, 0));
    }

    private static void years(String what, LendTown x, int p, int from, int... want) {
        for (int i = 0; i < want.length; i++) {
            Due.is(what + " in " + (from + i), want[i], x.is(p, from + i));
        }
    }

    private static void isByLife() {
        Due.sentence("WHAT one IS: by 'life' from then on; else nothing");
        LendTown x = Due.townOf("person a 0 6;person b 0 59;deal d a b 5 1 1;");
        years("a, ahead of any", x, 0, 4, 0, 0, 0);
        x.does(0, 0);
        years("a", x, 0, 3, 0, 0, 1, 1, 1);
        years("b", x, 1, 3, 0, 0, 2, 2, 2);
        Due.is("a in the last year", 1, x.is(0, 59));
        Due.is("b in the last year", 2, x.is(1, 59));
        Due.is("a in the first year", 0, x.is(0, 0));
    }

    private static void isByYears() {
        Due.sentence("WHAT one IS: by 'years' N in the N years from its year on");
        int[] many = {1, 2, 7};
        for (int n : many) {
            LendTown x = Due.townOf(Texts.AB + "law years " + n + ";deal d a b 5 1 1;");
            x.does(0, 0);
            Due.is("a year ahead, N " + n, 0, x.is(0, 4));
            Due.is("its year, N " + n, 1, x.is(0, 5));
            Due.is("the last of N " + n, 1, x.is(0, 4 + n));
            Due.is("the last of N, b, " + n, 2, x.is(1, 4 + n));
            Due.is("one behind N " + n, 0, x.is(0, 5 + n));
            Due.is("one behind N, b, " + n, 0, x.is(1, 5 + n));
        }
    }

    private static void isByOneThatFoundHimNothing() {
        Due.sentence("WHAT one IS: by the last DEAL of that year or an earlier one that he did and that found him nothing");
        LendTown x = Due.townOf(Texts.ABC + "law years 3;deal d a b 5 1 1;deal e a b 7 1 1;deal f b a 8 1 1;deal g c b 12 1 1;");
        isBook(x, "d;e;f;g;", -1, 0, 4);
        years("a: e found him a lender, f nothing", x, 0, 4, 0, 1, 1, 1, 2, 2, 2, 0, 0, 0);
        years("b", x, 1, 4, 0, 2, 2, 2, 1, 1, 1, 0, 2, 2, 2, 0);
        years("c did one alone", x, 2, 10, 0, 0, 1, 1, 1, 0);
        x.undo();
        years("b without g", x, 1, 11, 0, 0, 0);
        LendTown y = Due.townOf(Texts.ABC + "law years 3;deal d a b 5 1 1;deal e a c 7 1 1;");
        isBook(y, "d;e;", -1, 0, 2);
        years("e found a bound, c nothing: a", y, 0, 7, 1, 0, 0);
        years("c", y, 2, 7, 2, 2, 2, 0);
    }

    private static void isAtTheLastYears() {
        Due.sentence("is(): NONE: no such ones (0 to 59)");
        LendTown x = Due.townOf(Texts.AB + "law years 60;deal d a b 0 1 1;deal e a b 59 1 1;");
        x.does(0, 0);
        Due.is("N 60 from 0 on, first", 1, x.is(0, 0));
        Due.is("N 60 from 0 on, last", 1, x.is(0, 59));
        int[][] none = {{0, -1}, {0, 60}, {2, 5}, {-1, 5}, {0, Integer.MAX_VALUE}, {0, Integer.MIN_VALUE}, {Integer.MAX_VALUE, 5},
            {Integer.MIN_VALUE, 5}};
        for (int[] at : none) {
            Due.is("is(" + at[0] + ", " + at[1] + ")", -1, x.is(at[0], at[1]));
        }
        LendTown late = Due.townOf(Texts.AB + "law years 60;deal d a b 59 1 1;");
        late.does(0, 0);
        Due.is("from 59 on", 1, late.is(0, 59));
        Due.is("ahead of it", 0, late.is(0, 58));
    }

    private static void betweenLives() {
        Due.sentence("BETWEEN: PERSONS who live then");
        LendTown x = Due.townOf("person a 5 9;person b 0 59;person c 0 59;deal d b a 5 1 1;deal e a c 5 1 1;"
            + "deal f b a 9 1 1;deal g a c 9 1 1;");
        Due.is("a year ahead", 0, x.between(4));
        Due.is("born then", 1, x.between(5));
        Due.is("lives, no DEAL", 0, x.between(6));
        Due.is("dies then", 1, x.between(9));
        Due.is("a year behind", 0, x.between(10));
        Due.sentence("between(): NONE: no such one");
        Due.is("between(-1)", -1, x.between(-1));
        Due.is("between(60)", -1, x.between(60));
        Due.is("between(MIN)", -1, x.between(Integer.MIN_VALUE));
        Due.is("between(MAX)", -1, x.between(Integer.MAX_VALUE));
        LendTown ends = Due.townOf(Texts.ABC + "deal d b a 0 1 1;deal e a c 0 1 1;deal f b a 59 1 1;deal g a c 59 1 1;");
        Due.is("between(0)", 1, ends.between(0));
        Due.is("between(59)", 1, ends.between(59));
    }

    private static void betweenNothing() {
        Due.sentence("BETWEEN: who are nothing, as all IS by the BOOK in that year");
        String deals = "deal dd b a 6 1 1;deal e a c 6 1 1;deal f b a 7 1 1;deal g a c 7 1 1;deal h d a 5 1 1;";
        LendTown x = Due.townOf(Texts.ABCD + "law years 2;" + deals);
        Due.is("nothing is done", 1, x.between(6));
        x.does(4, 0);
        Due.is("a is a borrower in 6", 0, x.between(6));
        Due.is("a is free in 7", 1, x.between(7));
        x.undo();
        x.does(0, 0);
        x.undo();
        Due.is("undone", 1, x.between(6));
        LendTown later = Due.townOf(Texts.ABCD + deals);
        later.does(2, 0);
        Due.is("a DEAL done later binds no earlier year", 1, later.between(6));
        Due.is("it binds its own", 0, later.between(7));
    }

    private static void betweenDeals() {
        Due.sentence("BETWEEN: a DEAL of that year, not done, as a borrower (told or turned), and one as a lender with another PERSON");
        LendTown x = Due.townOf(Texts.ABC + "deal d b a 5 1 1;deal e a c 5 1 1;deal f b a 6 1 1;deal g b a 7 1 1;deal h a b 7 1 1;"
            + "deal i b a 8 1 1 either;deal j a c 9 1 1 either;deal k a b 9 1 1;deal l b a 10 1 1;deal m a c 11 1 1;");
        Due.is("of both sorts", 1, x.between(5));
        Due.is("as a borrower alone", 0, x.between(6));
        Due.is("with one PERSON alone", 0, x.between(7));
        Due.is("one DEAL, either way with one alone", 0, x.between(8));
        Due.is("turned c lends to a, a lends to b", 1, x.between(9));
        Due.is("of another year", 0, x.between(10));
        Due.is("as a lender alone", 0, x.between(11));
        LendTown more = Due.townOf(Texts.ABC + "deal d b a 5 1 1;deal e a c 5 1 1;deal f a b 5 1 1;"
            + "deal g a b 6 1 1;deal h c a 6 1 1;deal i b a 6 1 1;");
        Due.is("one of two who would borrow is another PERSON", 1, more.between(5));
        Due.is("one of two who would lend is another PERSON", 1, more.between(6));
        LendTown both = Due.townOf(Texts.ABC + "deal d b a 5 1 1 either;deal e a c 5 1 1 either;deal f b c 6 1 1;deal g c a 6 1 1 either;");
        Due.is("either way round", 1, both.between(5));
        Due.is("c of b, to a", 4, both.between(6));
        LendTown done = Due.townOf(Texts.ABC + "law years 1;deal d a b 5 1 1 either;deal e b c 5 1 1;deal f a c 5 1 1 either;");
        Due.is("a and b: of c or b, to b or c", 3 | 4, done.between(5));
        done.does(2, 0);
        Due.is("f is done: a lent, c borrowed, b between them", 2, done.between(5));
        done.does(1, 0);
        Due.is("b is a lender", 0, done.between(5));
    }

    private static void betweenOthers() {
        Due.sentence("BETWEEN: one may lend, who IS no borrower in that year, borrow, who IS no lender");
        String deals = "deal dd b a 5 1 1;deal e a c 5 1 1;deal f d b 4 1 1;deal g b d 4 1 1;deal h d c 4 1 1;deal i c d 4 1 1;";
        int[][] cases = {{2, 0}, {3, 1}, {4, 1}, {5, 0}};
        for (int[] at : cases) {
            LendTown x = Due.townOf(Texts.ABCD + "law years 2;" + deals);
            x.does(at[0], 0);
            Due.is("behind DEAL " + at[0], at[1], x.between(5));
            LendTown free = Due.townOf(Texts.ABCD + "law years 1;" + deals);
            free.does(at[0], 0);
            Due.is("free behind DEAL " + at[0], 1, free.between(5));
        }
    }

    private static void betweenLimits() {
        Due.sentence("BETWEEN: limits count nothing");
        LendTown x = Due.townOf(Texts.ABC + Texts.limits(3, 0) + "deal d b a 5 1 1;deal e a c 5 1 1;");
        Due.is("limits 0", 1, x.between(5));
    }

    private static LendTown ranBy(int seed, int done, int refused) {
        LendTown x = Due.townOf(Texts.ABC + "deal d a b 5 1 1;deal e a c 5 1 1 either;deal f b a 5 1 1 either;");
        Due.is("run(" + seed + ")", done, x.run(seed));
        Due.is("refused by " + seed, refused, x.refused());
        Due.is("done by " + seed, done, x.count(3));
        return x;
    }

    private static void ways(String run, LendTown x, int... want) {
        for (int d = 0; d < want.length; d++) {
            Due.is(run + " of DEAL " + d, want[d], x.deal(d, 6));
        }
    }

    private static void runDraws() {
        Due.sentence("RUN: a draw of 4: 0: it does not come; 1 (and 'either'): it comes turned; else as told: it is done, if it is not WRONG");
        ways("0, 2, 3", ranBy(0, 1, 1), 0, 1, 0);
        ways("2, 0, 0", ranBy(1, 1, 0), 1, 0, 0);
        ways("1 (not 'either'), 3, 1", ranBy(2, 3, 0), 1, 1, 2);
        ways("3, 1 (WRONG), 1", ranBy(3, 2, 1), 1, 0, 2);
        ways("0, 1, 0", ranBy(23, 1, 0), 0, 2, 0);
        ways("0, 1, 3", ranBy(28, 2, 0), 0, 2, 1);
    }

    private static void runOrder() {
        Due.sentence("RUN: for each DEAL by its year (of like ones by its number) a draw");
        LendTown x = Due.townOf(Texts.AB + "deal d a b 7 1 1;deal e a b 5 1 1;deal f a b 6 1 1;deal g a b 5 1 1;");
        Due.is("e: 0, g: 2, f: 3, d: 0", 2, x.run(0));
        ways("seed 0", x, 0, 0, 1, 1);
        Due.is("e: 2, g: 0, f: 0, d: 3", 2, x.run(1));
        ways("seed 1", x, 1, 1, 0, 0);
        Due.is("refused", 0, x.refused());
        Due.is("the last one done is d", 1, x.undo());
        ways("without the last one", x, 0, 1, 0, 0);
    }

    private static void runSeeds() {
        Due.sentence("RUN: x becomes x * 1103515245 + 12345 (an int, wrapping), the draw is (x >>> 8) % n");
        ways("1, 0, 3 (WRONG)", ranBy(-1, 1, 1), 1, 0, 0);
        ways("3, 1 (WRONG), 2 (WRONG)", ranBy(-2, 1, 2), 1, 0, 0);
        ways("1, 0, 3 (WRONG)", ranBy(Integer.MAX_VALUE, 1, 1), 1, 0, 0);
        ways("0, 2, 3 (WRONG)", ranBy(Integer.MIN_VALUE, 1, 1), 0, 1, 0);
        ways("2, 1 (WRONG), 3 (WRONG)", ranBy(11, 1, 2), 1, 0, 0);
        ways("3, 1 (WRONG), 0", ranBy(18, 1, 1), 1, 0, 0);
    }

    private static void runFromNothing() {
        Due.sentence("run(): from nothing done on; NONE: no DEALS");
        LendTown x = Due.townOf(Texts.AB + "deal d a b 5 1 1;deal e a b 4 1 1;");
        x.does(0, 0);
        Due.is("d alone is done", 1, x.count(3));
        int done = x.run(NONE_COMES);
        Due.is("none comes", 0, done);
        Due.is("what was done is not", 0, x.count(3));
        Due.is("refused", 0, x.refused());
        LendTown none = Due.townOf(Texts.AB);
        Due.is("refused, ahead of any", -1, none.refused());
        Due.is("no DEALS", -1, none.run(1));
        Due.is("refused stays", -1, none.refused());
        Due.is("undo", -1, none.undo());
    }
}
