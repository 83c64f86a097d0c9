/** For each promise what the document tells by name: ordinary inputs, edges, wrong inputs. */
public final class PromiseTest {
    public static void main(String[] args) {
        newObject();
        feedAndEnd();
        townTokens();
        townNumbers();
        townNames();
        townMost();
        townLength();
        townReplaces();
        personAndDeal();
        doesAndUndo();
        wrongKinds();
        bookLines();
        bookFaults();
        isInYears();
        mayAndHad();
        gainByLimits();
        bestAndAbove();
        goesAndOwn();
        priceAndLoss();
        climbing();
        restsAndRounds();
        ring();
        oneYears();
        lawfulWays();
        fewestLenders();
        meetings();
        falseMeetings();
        betweens();
        runs();
        images();
        counts();
        Due.end();
    }

    private static void newObject() {
        LendTown x = new LendTown();
        Due.is("NONE", -1, LendTown.NONE);
        for (int what = 0; what <= 4; what++) {
            Due.is("count of a new one", 0, x.count(what));
        }
        Due.is("fault", 0, x.fault());
        Due.is("why", 0, x.why());
        Due.is("climbed", 0, x.climbed());
        Due.is("ended 0", -1, x.ended(0));
        Due.is("ended 1", -1, x.ended(1));
        Due.is("refused", -1, x.refused());
        Due.is("oneIs", -1, x.oneIs(0));
        Due.is("lawfulBy", -1, x.lawfulBy(0));
        Due.is("undo", -1, x.undo());
        Due.no("restore 0", x.restore(0));
        Due.no("restore 1", x.restore(1));
        Due.is("town()", 0, x.town());
        Due.is("book()", -1, x.book());
        Due.is("meet()", 1, x.meet());
        Due.is("run", -1, x.run(5));
        Due.is("refused", -1, x.refused());
    }

    private static void feedAndEnd() {
        LendTown x = new LendTown();
        for (int i = 1; i <= 47; i++) {
            Due.is("feed", 20 * i, x.feed(i, i, i, i, i));
        }
        Due.is("feed, full", -1, x.feed(1, 1, 1, 1, 1));
        Due.is("count(4)", 940, x.count(4));
        Due.no("end(941)", x.end(941));
        Due.no("end(-1)", x.end(-1));
        Due.no("end(MIN)", x.end(Integer.MIN_VALUE));
        Due.no("end(MAX)", x.end(Integer.MAX_VALUE));
        Due.is("count(4)", 940, x.count(4));
        Due.yes("end(940)", x.end(940));
        Due.yes("end(921)", x.end(921));
        Due.is("feed, one too many", -1, x.feed(1, 1, 1, 1, 1));
        Due.yes("end(920)", x.end(920));
        Due.is("feed, just", 940, x.feed(1, 1, 1, 1, 1));
        Due.yes("end(0)", x.end(0));
        Due.no("end(1)", x.end(1));
        Due.is("count(4)", 0, x.count(4));
        // "person a 1 2;" with the highest byte first, the sign bit too
        Due.is("feed", 20, x.feed(0x70657273, 0x6f6e2061, 0x20312032, 0x3b000000, 0));
        x.end(13);
        Due.is("town()", 1, x.town());
        Due.is("born", 1, x.person(0, 0));
        Due.feed(x, "law lifes");
        x.end(8);
        Due.is("a cut word ends at the cut", -9, x.town());
        x.feed(0x80ffffff, 0, 0, 0, 0);
        x.end(1);
        Due.is("town(), no TOKEN", -1, x.town());
    }

    private static void townTokens() {
        Texts.isTown("", 0);
        Texts.isTown(" \n ", 0);
        Texts.isTown("person abcdefg 0 59;", 1);
        Texts.isTown("person a 0 5;person aa 0 5;person aaa 0 5;person b 0 5;person ab 0 5;person ba 0 5;person bb 0 5;person bbb 0 5;", 8);
        Texts.isTown("person abcdefg 0 5;person abcdefh 0 5;person bbcdefg 0 5;person z 0 5;person zzzzzzz 0 5;", 5);
        Texts.isTown(" person\na\n00 \n 09\n;\n", 1);
        Texts.townFault("law life;law", 9, 3);
        Texts.townFault("person ^abcdefgh 0 59;", 1);
        Texts.townFault("person ^Abc 0 59;", 1);
        Texts.townFault("person a^B 0 59;", 1);
        Texts.townFault("person ^a1 0 59;", 1);
        Texts.townFault("person a ^0x 59;", 1);
        Texts.townFault("person a ^000 59;", 1);
        Texts.townFault("person a 0 ^059;", 1);
        Texts.townFault("person a^\t0 59;", 1);
        Texts.townFault("person a^\r0 59;", 1);
        Texts.townFault("person a ^-1 59;", 1);
        Texts.townFault("person a 0 59^.", 1);
        Texts.townFault("^.", 1);
        Texts.townFault("^;", 1);
        Texts.townFault("person a 0 59;^;", 1);
        Texts.townFault("^a", 1);
        Texts.townFault("^5", 1);
        Texts.townFault("^turned", 1);
        Texts.townFault("^\u00e9", 1);
        Texts.townFault("person a 0 59^", 1);
        Texts.townFault("person a 0 59 \n ^", 1);
        Texts.townFault("person a 0^", 1);
        Texts.townFault("person^", 1);
        Texts.townFault("person ^5 0 59;", 1);
        Texts.townFault("person ^; 0 59;", 1);
        Texts.townFault("person a ^b 59;", 1);
        Texts.townFault("person a 0 ^;", 1);
        Texts.townFault("person a 0 59 ^5;", 1);
        Texts.townFault("person a 0 59 ^either;", 1);
        for (String word : "person limit deal either law life years part lends borrows turned".split(" ")) {
            Texts.townFault("person ^" + word + " 0 59;", 1);
            Texts.townFault(Texts.AB + "limit ^" + word + " 1;", 1);
            Texts.townFault(Texts.AB + "part ^" + word + " lends;", 1);
            Texts.townFault(Texts.AB + "deal ^" + word + " a b 1 1 1;", 1);
            Texts.townFault(Texts.AB + "deal d ^" + word + " b 1 1 1;", 1);
            Texts.townFault(Texts.AB + "deal d a ^" + word + " 1 1 1;", 1);
        }
        Texts.isTown("person lend 0 59;person year 0 59;person turn 0 59;", 3);
        Texts.isTown("person laws 0 59;person parts 0 59;person persons 0 59;", 3);
        Texts.townFault("^laws life;", 1);
        Texts.townFault("^persons a 0 59;", 1);
        Texts.townFault("^la life;", 1);
        Texts.townFault(Texts.AB + "limit a ^b;", 1);
        Texts.townFault(Texts.AB + "limit a 1 ^", 1);
        Texts.townFault(Texts.AB + "part a ^life;", 1);
        Texts.townFault(Texts.AB + "part a lends ^lends;", 1);
        Texts.townFault(Texts.AB + "part a ^5;", 1);
        Texts.townFault(Texts.AB + "deal d a b 1 1 1 ^turned;", 1);
        Texts.townFault(Texts.AB + "deal d a b 1 1 1 ^1;", 1);
        Texts.townFault(Texts.AB + "deal d a b 1 1 ^either;", 1);
        Texts.townFault(Texts.AB + "deal d a b 1 1 1 either^", 1);
        Texts.townFault("law ^5;", 1);
        Texts.townFault("law ^year 5;", 1);
        Texts.townFault("law years ^life;", 1);
        Texts.townFault("law life ^5;", 1);
        Texts.townFault("law years 5 ^5;", 1);
    }

    private static void townNumbers() {
        Texts.isTown("person a 59 59;", 1);
        Texts.townFault("person a ^60 60;", 2);
        Texts.townFault("person a 0 ^60;", 2);
        Texts.townFault("person a 7 ^6;", 2);
        Texts.isTown(Texts.AB + "limit a 9;limit b 0;", 4);
        Texts.townFault(Texts.AB + "limit a ^10;", 2);
        Texts.isTown("law years 60;", 1);
        Texts.isTown("law years 1;", 1);
        Texts.townFault("law years ^0;", 2);
        Texts.townFault("law years ^61;", 2);
        String lives = "person a 3 9;person b 5 20;";
        Texts.isTown(lives + "deal d a b 5 99 0;deal e b a 9 0 99 either;", 4);
        Texts.townFault(lives + "deal d a b ^4 1 1;", 2);
        Texts.townFault(lives + "deal d a b ^10 1 1;", 2);
        Texts.townFault(lives + "deal d b a ^4 1 1;", 2);
        Texts.townFault(lives + "deal d b a ^10 1 1;", 2);
        Texts.townFault(lives + "deal d b a ^60 1 1;", 2);
        Texts.townFault("person a 0 4;person b 5 9;deal d a b ^4 1 1;", 2);
        Texts.townFault(lives + "deal d b a 5 ^100 1;", 1);
    }

    private static void townNames() {
        Texts.townFault(Texts.AB + "person ^a 0 5;", 3);
        Texts.townFault(Texts.AB + "deal d a b 1 1 1;person ^d 0 5;", 3);
        Texts.townFault(Texts.AB + "deal d a b 1 1 1;deal ^d a b 1 1 1;", 3);
        Texts.townFault(Texts.AB + "deal ^a a b 1 1 1;", 3);
        Texts.townFault(Texts.AB + "deal d ^d b 1 1 1;", 3);
        Texts.townFault(Texts.AB + "deal d a ^d 1 1 1;", 3);
        Texts.townFault(Texts.AB + "deal d ^c b 1 1 1;", 3);
        Texts.townFault(Texts.AB + "deal d a ^c 1 1 1;", 3);
        Texts.townFault(Texts.AB + "deal d a ^a 1 1 1;", 3);
        Texts.townFault(Texts.AB + "deal d a b 1 1 1;limit ^d 1;", 3);
        Texts.townFault(Texts.AB + "limit ^c 1;person c 0 5;", 3);
        Texts.townFault(Texts.AB + "part ^c lends;person c 0 5;", 3);
        Texts.townFault(Texts.AB + "limit a 9;limit ^a 9;", 3);
        Texts.townFault(Texts.AB + "part a borrows;part ^a lends;", 3);
        Texts.townFault("law years 5;^law life;", 3);
        Texts.townFault("law life;^law", 3);
        Texts.isTown(Texts.AB + "limit a 1;part a lends;limit b 1;part b lends;law life;", 7);
    }

    private static void townMost() {
        Texts.isTown(Texts.persons(10), 10);
        Texts.townFault(Texts.persons(10) + "^person k 0 59;", 4);
        Texts.townFault(Texts.persons(10) + "^person", 4);
        Texts.townFault(Texts.persons(10) + "^person a 70 59;", 4);
        Texts.isTown(Texts.AB + Texts.deals(30, 5), 32);
        Texts.townFault(Texts.AB + Texts.deals(30, 5) + "^deal z a b 5 1 1;", 4);
        Texts.townFault(Texts.AB + Texts.deals(30, 5) + "^deal", 4);
        Texts.townFault(Texts.AB + Texts.deals(30, 5) + "law ^deal", 1);
    }

    private static void townLength() {
        Texts.isTown(Texts.blanks(900), 0);
        Texts.townFault(Texts.blanks(901), 900, 1);
        Texts.townFault(Texts.blanks(940), 900, 1);
        String line = "person a 0 59;";
        Texts.isTown(Texts.blanks(900 - line.length()) + line, 1);
        Texts.townFault(Texts.blanks(901 - line.length()) + line, 900, 1);
        Texts.townFault(line + Texts.blanks(901 - line.length()), 900, 1);
        Texts.townFault(line + Texts.blanks(900 - line.length() - 3) + "law", 900, 1);
        Texts.townFault(line + Texts.blanks(900 - line.length() - 3) + "law years", 900, 1);
        // a TOKEN that begins ahead of the end is read whole, a FAULT of it is at it
        Texts.townFault(line + Texts.blanks(899 - line.length()) + "law", 900, 1);
        Texts.townFault(line + Texts.blanks(899 - line.length()) + "lax", 899, 1);
        Texts.townFault(line + Texts.blanks(899 - line.length()) + "l", 899, 1);
        Texts.townFault("person a 0" + Texts.blanks(889) + "123;", 899, 1);
        Texts.townFault("person a 0" + Texts.blanks(889) + "60;", 899, 2);
        Texts.townFault("person a 9" + Texts.blanks(889) + "10;", 900, 1);
        Texts.townFault("person a 9" + Texts.blanks(890) + "5x;", 900, 1);
        Texts.townFault("person " + Texts.blanks(892) + "abcdefg 0 59;", 900, 1);
        Texts.townFault("person " + Texts.blanks(892) + "abcdefgh 0 59;", 899, 1);
        Texts.townFault("law " + Texts.blanks(900) + ".", 900, 1);
        Texts.townFault(Texts.blanks(899) + "l".repeat(41), 899, 1);
        Texts.townFault("person" + Texts.blanks(893) + "5".repeat(41), 899, 1);
    }

    private static void townReplaces() {
        LendTown x = Due.townOf(Texts.AB + "law years 3;part b lends;limit b 2;deal d a b 1 1 1;");
        x.does(0, 0);
        Due.is("at rest", 2, x.rests(-1));
        Due.is("bad town", -5, Due.town(x, "law death;"));
        Due.is("law stays", 3, x.count(2));
        Due.is("done stays", 1, x.count(3));
        Due.is("parts stay", 2, x.told());
        Due.is("other town", 1, Due.town(x, "person z 2 8;"));
        Due.is("fault", 0, x.fault());
        Due.is("persons", 1, x.count(0));
        Due.is("deals", 0, x.count(1));
        Due.is("life", 0, x.count(2));
        Due.is("done", 0, x.count(3));
        Due.is("told", 0, x.told());
        Due.is("limit", 9, x.person(0, 2));
        Due.is("second town", 5, Due.town(x, Texts.AB + "deal z a b 1 1 1;part b borrows;limit b 3;"));
        Due.is("law of the first one is gone", 0, x.count(2));
        Due.is("parts of the first one are gone", 0, x.told());
        Due.is("a's limit", 9, x.person(0, 2));
        Due.is("b's limit", 3, x.person(1, 2));
        Due.is("third town", 2, Due.town(x, Texts.AB));
        Due.is("limits of others are gone", 9, x.person(1, 2));
        Due.is("deals of others are gone", 0, x.count(1));
        Due.is("all rest", 4, x.rests(-1));
        Due.is("fourth town", 1, Due.town(x, "person a 0 5;"));
        Due.is("all rest", 2, x.rests(-1));
        Due.is("fifth town", 3, Due.town(x, Texts.ABC));
        Due.is("rests of others are gone", 8, x.rests(-1));
    }

    private static void personAndDeal() {
        LendTown x = Due.townOf("person a 3 9;person b 5 20;limit b 4;part a lends;part b borrows;"
            + "deal d a b 7 11 12;deal e b a 5 13 14 either;");
        int[][] people = {{3, 9, 9, 1}, {5, 20, 4, 0}};
        for (int p = 0; p < 2; p++) {
            for (int what = 0; what < 4; what++) {
                Due.is("person(" + p + ", " + what + ")", people[p][what], x.person(p, what));
            }
        }
        Due.is("told", 1, x.told());
        x.does(1, 1);
        int[][] deals = {{0, 1, 7, 11, 12, 0, 0}, {1, 0, 5, 13, 14, 1, 2}};
        for (int d = 0; d < 2; d++) {
            for (int what = 0; what < 7; what++) {
                Due.is("deal(" + d + ", " + what + ")", deals[d][what], x.deal(d, what));
            }
        }
        Due.is("not either", 2, x.does(0, 1));
        Due.is("WRONG is not done", 0, x.deal(0, 6));
        x.undo();
        Due.is("deal not done", 0, x.deal(1, 6));
        x.does(1, 0);
        Due.is("deal as told", 1, x.deal(1, 6));
        int[][] none = {{2, 0}, {-1, 0}, {0, -1}, {0, 7}, {Integer.MAX_VALUE, 0}, {0, Integer.MIN_VALUE}, {30, 0}};
        for (int[] at : none) {
            Due.noSuchElement("deal(" + at[0] + ", " + at[1] + ")", () -> x.deal(at[0], at[1]));
            Due.noSuchElement("person(" + at[0] + ", " + at[1] + ")", () -> x.person(at[0], at[1]));
        }
        Due.noSuchElement("person(0, 4)", () -> x.person(0, 4));
    }

    private static void doesAndUndo() {
        LendTown x = Due.townOf(Texts.AB + "deal d a b 1 1 1;deal e a b 2 1 1 either;");
        Due.is("does(2, 0)", -1, x.does(2, 0));
        Due.is("does(-1, 0)", -1, x.does(-1, 0));
        Due.is("does(0, 2)", -1, x.does(0, 2));
        Due.is("does(0, -1)", -1, x.does(0, -1));
        Due.is("undo", -1, x.undo());
        Due.is("does(0, 0)", 0, x.does(0, 0));
        Due.is("does(1, 0)", 0, x.does(1, 0));
        Due.is("undo", 1, x.undo());
        Due.is("e again", 0, x.does(1, 0));
        Due.is("undo", 1, x.undo());
        Due.is("undo", 0, x.undo());
        Due.is("undo", -1, x.undo());
        Due.is("is behind undo", 0, x.is(0, 1));
        Due.is("turned", 0, x.does(1, 1));
        Due.is("is", 2, x.is(0, 2));
        Due.is("why tells of book alone", 0, x.why());
    }

    private static void wrongKinds() {
        LendTown x = Due.townOf(Texts.ABCD + "limit d 1;law years 2;"
            + "deal da a b 5 1 1;deal db c b 4 1 1;deal dc b c 5 1 1;deal dd c a 5 1 1;deal de a d 5 1 1;"
            + "deal df c d 5 1 1;deal dg b a 5 1 1 either;deal dh b a 7 1 1;deal di b a 6 1 1;deal dj d c 5 1 1 either;");
        Due.is("done: da", 0, x.does(0, 0));
        Due.is("1 ahead of 2", 1, x.does(0, 1));
        Due.is("2 ahead of 3", 2, x.does(1, 1));
        Due.is("3: year", 3, x.does(1, 0));
        Due.is("4: b borrowed", 4, x.does(2, 0));
        Due.is("5: a lent", 5, x.does(3, 0));
        Due.is("4 ahead of 5", 4, x.does(6, 0));
        Due.is("turned it is lawful", 0, x.does(6, 1));
        Due.is("limit of d", 0, x.does(4, 0));
        Due.is("6: d did one", 6, x.does(5, 0));
        Due.is("4 ahead of 6", 4, x.does(9, 0));
        Due.is("6, turned", 6, x.does(9, 1));
        Due.is("bound in year 6", 4, x.does(8, 0));
        Due.is("free in year 7", 0, x.does(7, 0));
        Due.is("3 behind a later year", 3, x.does(5, 0));
        Due.is("b now lends", 1, x.is(1, 8));
        Due.is("b borrowed then", 2, x.is(1, 6));
        LendTown nine = Due.townOf(Texts.AB + Texts.deals(11, 5));
        for (int d = 0; d < 9; d++) {
            Due.is("nine a year", 0, nine.does(d, 0));
        }
        Due.is("the tenth", 6, nine.does(9, 0));
        LendTown zero = Due.townOf(Texts.AB + "limit b 0;deal d a b 1 1 1;deal e b a 1 1 1;");
        Due.is("limit 0, borrower", 6, zero.does(0, 0));
        Due.is("limit 0, lender", 6, zero.does(1, 0));
        LendTown each = Due.townOf(Texts.AB + "limit a 1;deal d a b 1 1 1;deal e a b 2 1 1;");
        Due.is("a year", 0, each.does(0, 0));
        Due.is("another year", 0, each.does(1, 0));
    }

    private static void bookLines() {
        LendTown x = Due.townOf(Texts.AB + "deal d a b 5 1 1;deal e a b 6 1 1 either;deal f b a 7 1 1;");
        Due.is("book", -1, Due.book(x, "d;e;"));
        Due.is("why", 0, x.why());
        Due.is("done", 2, x.count(3));
        Due.is("book", 1, Due.book(x, "e turned;\nd ;"));
        Due.is("why", 3, x.why());
        Due.is("done ahead", 1, x.count(3));
        Due.is("turned", 2, x.deal(1, 6));
        Due.is("book", 2, Due.book(x, "d;e;f;e;"));
        Due.is("why", 4, x.why());
        Due.is("done ahead", 2, x.count(3));
        Due.is("book", 0, Due.book(x, "d turned;d;"));
        Due.is("why", 2, x.why());
        Due.is("none done", 0, x.count(3));
        Due.is("does", 0, x.does(0, 0));
        Due.is("empty book", -1, Due.book(x, ""));
        Due.is("from nothing", 0, x.count(3));
        Due.is("book", 1, Due.book(x, "d;d;"));
        Due.is("why", 1, x.why());
        Due.is("tape", 0, x.count(4));
        LendTown all = Due.townOf(Texts.AB + "law years 1;limit a 9;" + Texts.deals(9, 5));
        Due.is("40 lines", 1, Due.book(all, "xaa;".repeat(40)));
    }

    private static void bookFault(LendTown x, String marked, int kind) {
        int place = marked.indexOf('^');
        String text = marked.substring(0, place) + marked.substring(place + 1);
        Due.is("book of " + text, -2 - place, Due.book(x, text));
        Due.is("fault of " + text, kind, x.fault());
        Due.is("why of " + text, 0, x.why());
        Due.is("done stays", 1, x.count(3));
        Due.is("tape", 0, x.count(4));
    }

    private static void bookFaults() {
        LendTown x = Due.townOf(Texts.AB + "deal d a b 5 1 1;deal e a b 6 1 1 either;");
        Due.is("book", 1, Due.book(x, "d;d;"));
        bookFault(x, "^turned;", 1);
        bookFault(x, "^person;", 1);
        bookFault(x, "e;^;", 1);
        bookFault(x, "^5;", 1);
        bookFault(x, "e ^either;", 1);
        bookFault(x, "e turned ^turned;", 1);
        bookFault(x, "e turned^", 1);
        bookFault(x, "e^", 1);
        bookFault(x, "e;^E;", 1);
        bookFault(x, "^a;", 3);
        bookFault(x, "e;^x;", 3);
        bookFault(x, "e;".repeat(40) + "^e;", 4);
        bookFault(x, "e;".repeat(40) + "^e", 4);
        bookFault(x, "e;".repeat(40) + "^x", 3);
        bookFault(x, "e;".repeat(40) + "^turned", 1);
        bookFault(x, Texts.blanks(600) + "^ ", 1);
        bookFault(x, "e;" + Texts.blanks(598) + "^.", 1);
        bookFault(x, "e" + Texts.blanks(598) + "^turn;", 1);
        bookFault(x, "e" + Texts.blanks(598) + "t^urned;".replace("^", "") + "^", 1, 600);
        bookFault(x, Texts.blanks(599) + "^xy", 3);
        Due.is("600 bytes", -1, Due.book(x, Texts.blanks(598) + "e;"));
        Due.is("fault", 0, x.fault());
        Due.is("601 bytes", -602, Due.book(x, Texts.blanks(599) + "e;"));
        Due.is("fault", 1, x.fault());
        Due.is("town behind", 0, Due.town(x, ""));
        Due.is("fault", 0, x.fault());
    }

    private static void bookFault(LendTown x, String marked, int kind, int place) {
        String text = marked.replace("^", "");
        Due.is("book of " + text, -2 - place, Due.book(x, text));
        Due.is("fault of " + text, kind, x.fault());
    }

    private static void isInYears() {
        LendTown x = Due.townOf("person a 0 20;person b 0 59;law years 3;deal d a b 5 1 1;deal e a b 7 1 1;deal f b a 8 1 1;");
        Due.is("book", -1, Due.book(x, "d;e;f;"));
        int[] a = {0, 0, 0, 0, 0, 1, 1, 1, 2, 2, 2, 0, 0};
        for (int year = 0; year < a.length; year++) {
            Due.is("a is in " + year, a[year], x.is(0, year));
            Due.is("b is in " + year, a[year] == 0 ? 0 : 3 - a[year], x.is(1, year));
        }
        Due.is("no person", -1, x.is(2, 5));
        Due.is("no person", -1, x.is(-1, 5));
        Due.is("no year", -1, x.is(0, -1));
        Due.is("no year", -1, x.is(0, 60));
        Due.is("last year", 0, x.is(0, 59));
        LendTown life = Due.townOf("person a 0 20;person b 0 59;deal d a b 5 1 1;deal e b a 5 1 1 either;");
        life.does(1, 1);
        life.does(0, 0);
        Due.is("ahead", 0, life.is(0, 4));
        Due.is("from then on", 1, life.is(0, 5));
        Due.is("for good", 1, life.is(0, 59));
        Due.is("for good", 2, life.is(1, 59));
        LendTown one = Due.townOf(Texts.AB + "law years 1;deal d a b 5 1 1;deal e b a 6 1 1;");
        Due.is("each year anew", -1, Due.book(one, "d;e;"));
        Due.is("lender", 1, one.is(0, 5));
        Due.is("borrower", 2, one.is(0, 6));
        Due.is("nothing", 0, one.is(0, 7));
    }

    private static void mayAndHad() {
        LendTown x = Due.townOf(Texts.ABC + "deal d a b 5 3 4;deal e b c 6 10 20 either;deal f c a 5 7 8;deal g a c 4 1 1;");
        Due.is("may(0)", 15, x.may(0));
        Due.is("may(1)", 2, x.may(1));
        Due.is("may(2)", -1, x.may(2));
        Due.is("may(-1)", -1, x.may(-1));
        x.does(0, 0);
        Due.is("may(0)", 0, x.may(0));
        Due.is("may(1)", 2, x.may(1));
        Due.is("had(0)", 3, x.had(0));
        Due.is("had(1)", 4, x.had(1));
        Due.is("had(2)", 0, x.had(2));
        x.does(1, 1);
        Due.is("gains stay", 14, x.had(1));
        Due.is("gains stay", 20, x.had(2));
        Due.is("had(3)", -1, x.had(3));
        Due.is("had(-1)", -1, x.had(-1));
        LendTown many = Due.townOf(Texts.persons(10) + Texts.deals(30, 5));
        Due.is("may, 30 deals", (1 << 30) - 1, many.may(0));
        Due.is("goes, 30 deals", (1 << 30) - 1, many.goes(1));
        Due.is("gain, limit 9", 18, many.gain(1));
    }

    private static void gainByLimits() {
        // a and b lend, c and d borrow: the greatest one (a-c) would block two that are greater together
        LendTown x = Due.townOf(Texts.ABCD + "limit a 1;limit b 1;limit c 1;limit d 1;"
            + "deal da a c 5 5 5;deal db a d 5 4 4;deal dc b c 5 3 4;deal dd b d 6 50 0;deal de d b 6 2 0;");
        Due.is("two for one", 8 + 7 + 50, x.gain(3));
        Due.is("c alone borrows of a", 10, x.gain(1));
        Due.is("turned is not told", 2, x.gain(8));
        Due.is("nobody lends", 0, x.gain(0));
        Due.is("all lend", 0, x.gain(15));
        Due.is("no parts", -1, x.gain(16));
        Due.is("no parts", -1, x.gain(-1));
        LendTown twice = Due.townOf(Texts.AB + "limit b 2;deal d a b 5 1 0;deal e a b 5 0 2;deal f b a 5 3 1 either;deal g a b 6 0 9;");
        Due.is("two of three", 2 + 4 + 9, twice.gain(1));
        Due.is("only f goes", 4, twice.gain(2));
        // a path of three changes: first the greatest, then back along it twice
        LendTown path = Due.townOf(Texts.persons(6) + "limit a 1;limit b 1;limit c 1;limit d 1;limit e 1;limit f 1;"
            + "deal da a d 1 20 0;deal db a e 1 19 0;deal dc b d 1 18 0;deal dd b e 1 19 0;deal de b f 1 1 0;deal df c d 1 16 0;");
        Due.is("two are more than three", 20 + 19, path.gain(7));
        LendTown three = Due.townOf(Texts.persons(6) + "limit a 1;limit b 1;limit c 1;limit d 1;limit e 1;limit f 1;"
            + "deal da a d 1 20 0;deal db a e 1 19 0;deal dc b e 1 20 0;deal dd b f 1 15 0;deal de c d 1 16 0;");
        Due.is("three of most", 19 + 15 + 16, three.gain(7));
    }

    private static void bestAndAbove() {
        LendTown x = Due.townOf(Texts.ABC + "deal d a b 5 3 4;deal e b c 6 3 4;deal f c a 7 3 4;");
        Due.is("best", 7, x.best());
        Due.is("bestParts, the least", 1, x.bestParts());
        Due.is("above 7", 6, x.above(7));
        Due.is("above 8", 0, x.above(8));
        Due.is("above 0", 8, x.above(0));
        Due.is("above MIN", 8, x.above(Integer.MIN_VALUE));
        Due.is("above MAX", 0, x.above(Integer.MAX_VALUE));
        LendTown late = Due.townOf(Texts.ABC + "deal d a b 5 3 4;deal e c b 6 3 4;");
        Due.is("best", 14, late.best());
        Due.is("bestParts", 5, late.bestParts());
        Due.is("best told anew", 0, Due.town(late, ""));
        Due.is("best", 0, late.best());
        Due.is("bestParts", 0, late.bestParts());
    }

    private static void goesAndOwn() {
        LendTown x = Due.townOf(Texts.ABC + "limit a 0;deal d a b 5 3 4;deal e b c 6 10 20 either;deal f a c 7 7 8 either;");
        for (int parts = 0; parts < 8; parts++) {
            boolean a = (parts & 1) != 0;
            boolean b = (parts & 2) != 0;
            boolean c = (parts & 4) != 0;
            int want = (a && !b ? 1 : 0) + (b != c ? 2 : 0) + (a != c ? 4 : 0);
            Due.is("goes(" + parts + ")", want, x.goes(parts));
            Due.is("own(0, " + parts + ")", (a && !b ? 3 : 0) + (a != c ? 7 : 0), x.own(0, parts));
            Due.is("own(2, " + parts + ")", (b != c ? 20 : 0) + (a != c ? 8 : 0), x.own(2, parts));
        }
        Due.is("goes(8)", -1, x.goes(8));
        Due.is("goes(-1)", -1, x.goes(-1));
        Due.is("own(3, 0)", -1, x.own(3, 0));
        Due.is("own(-1, 0)", -1, x.own(-1, 0));
        Due.is("own(0, 8)", -1, x.own(0, 8));
        Due.is("own(0, -1)", -1, x.own(0, -1));
    }

    private static void priceAndLoss() {
        LendTown x = Due.townOf(Texts.AB + "limit a 1;limit b 2;deal d a b 5 1 1;deal e a b 5 3 3;deal f a b 5 2 2;deal g a b 6 0 1;");
        Due.is("gain", 7, x.gain(1));
        Due.is("price of a", 4, x.price(0, 1));
        Due.is("price of b", 0, x.price(1, 1));
        LendTown step = Due.townOf(Texts.AB + "limit a 1;deal d a b 5 1 1;deal e a b 5 3 3;deal f a b 5 2 2;");
        Due.is("one more alone", 4, step.price(0, 1));
        Due.is("loss of a", 7, x.loss(0, 1));
        Due.is("loss of b", 7, x.loss(1, 1));
        Due.is("nothing goes", 0, x.loss(1, 2));
        int[][] none = {{2, 1}, {-1, 1}, {0, 4}, {0, -1}};
        for (int[] at : none) {
            Due.is("price, no such", -1, x.price(at[0], at[1]));
            Due.is("loss, no such", -1, x.loss(at[0], at[1]));
        }
        Due.is("limits are as before", 7, x.gain(1));
        Due.is("limit told", 1, x.person(0, 2));
        LendTown ten = Due.townOf(Texts.ABC + "limit b 9;deal q c b 5 50 0;" + Texts.deals(9, 5));
        Due.is("nine of ten", 50 + 16, ten.gain(5));
        Due.is("a tenth", 2, ten.price(1, 5));
        Due.is("not a's", 0, ten.price(0, 5));
        Due.is("loss of a", 16, ten.loss(0, 5));
    }

    private static void climbing() {
        LendTown x = Due.townOf(Texts.ABC + "deal d a b 5 1 1;deal e b c 5 5 5;deal f c a 5 2 1;");
        // GAIN by parts: 1:2 2:10 3:10 4:3 5:2 6:3
        Due.is("climb(5)", 4, x.climb(5));
        Due.is("climbed", 1, x.climbed());
        Due.is("climb(8)", -1, x.climb(8));
        Due.is("climb(-1)", -1, x.climb(-1));
        Due.is("climbed stays", 1, x.climbed());
        Due.is("climb(2)", 2, x.climb(2));
        Due.is("climbed", 0, x.climbed());
        Due.is("first person first", 3, x.climb(0));
        Due.is("climbed", 2, x.climbed());
        Due.is("climb(7)", 2, x.climb(7));
        Due.is("climbed", 2, x.climbed());
        Due.is("climb(4)", 4, x.climb(4));
        Due.is("climbed", 0, x.climbed());
    }

    private static void restsAndRounds() {
        LendTown x = Due.townOf(Texts.AB + "deal d a b 1 5 0;deal e b a 2 0 6;deal f a b 3 1 1;");
        Due.is("how many", 2, x.rests(-1));
        Due.is("first", 1, x.rests(0));
        Due.is("second", 2, x.rests(1));
        Due.is("third", -1, x.rests(2));
        Due.is("rests(-2)", -1, x.rests(-2));
        Due.is("rests(MIN)", -1, x.rests(Integer.MIN_VALUE));
        Due.is("rests(MAX)", -1, x.rests(Integer.MAX_VALUE));
        Due.is("rounds(3)", 2, x.rounds(3));
        Due.is("ended", 2, x.ended(0));
        Due.is("at rest", 0, x.ended(1));
        Due.is("rounds(4)", -1, x.rounds(4));
        Due.is("rounds(-1)", -1, x.rounds(-1));
        Due.is("ended stays", 2, x.ended(0));
        Due.is("ended(-1)", -1, x.ended(-1));
        Due.is("ended(2)", -1, x.ended(2));
        Due.is("rounds(1)", 1, x.rounds(1));
        Due.is("ended", 1, x.ended(0));
        LendTown limits = Due.townOf(Texts.AB + "limit a 0;deal d a b 1 5 0;");
        Due.is("limits count nothing", 3, limits.rests(-1));
        Due.is("a lends", 1, limits.rests(0));
        Due.is("both lend", 3, limits.rests(2));
    }

    private static void ring() {
        LendTown chase = Due.townOf(Texts.ABC + "deal d a c 1 9 0 either;deal e b a 2 9 0 either;deal f c b 3 9 0 either;");
        // each of three wants to differ from the next one: 0 -> a, then b stays, c changes ..
        Due.is("no rest", 0, chase.rests(-1));
        Due.is("no first", -1, chase.rests(0));
        // from 0: a lends (1), b is unlike a, c borrows as b: lends (5); from 5: a changes (4), b lends (6), c changes (2);
        // from 2: a lends (3), b changes (1), c lends (5)
        Due.is("rounds(0)", 3, chase.rounds(0));
        Due.is("parts", 5, chase.ended(0));
        Due.is("ring", 2, chase.ended(1));
        Due.is("rounds(5)", 2, chase.rounds(5));
        Due.is("ring of two", 2, chase.ended(1));
        Due.is("parts", 5, chase.ended(0));
        Due.town(chase, Texts.AB);
        Due.is("ended tells of the latest rounds", 2, chase.ended(1));
        Due.is("nothing to gain", 1, chase.rounds(3));
        Due.is("parts", 3, chase.ended(0));
        Due.is("at rest", 0, chase.ended(1));
    }

    private static void oneYears() {
        LendTown x = Due.townOf(Texts.ABC + "limit b 0;part a lends;law years 4;"
            + "deal d a b 3 1 5;deal e b c 7 6 1;deal f b c 8 7 0;deal g a b 10 0 9;");
        // to lend in 6 already makes him free in 10
        Due.is("one", 5 + 6 + 7 + 9, x.one(1, 1));
        int[] row = {0, 0, 2, 2, 0, 0, 1, 1, 1, 0, 2, 0};
        for (int year = 0; year < row.length; year++) {
            Due.is("oneIs(" + year + ")", row[year], x.oneIs(year));
        }
        Due.is("his own part counts nothing", 27, x.one(1, 3));
        int before = x.oneIs(7);
        Due.is("by life", 14, x.oneBy(1, 1, 0));
        Due.is("year by year", 27, x.oneBy(1, 1, 1));
        Due.is("by 60 years", 14, x.oneBy(1, 1, 60));
        Due.is("by 3 years", 27, x.oneBy(1, 1, 3));
        Due.is("oneIs tells of one", before, x.oneIs(7));
        Due.is("no such", -1, x.oneBy(1, 1, 61));
        Due.is("no such", -1, x.oneBy(1, 1, -1));
        Due.is("no such", -1, x.oneBy(3, 1, 1));
        Due.is("no such", -1, x.oneBy(-1, 1, 1));
        Due.is("no such", -1, x.oneBy(1, 8, 1));
        Due.is("no such", -1, x.one(3, 1));
        Due.is("no such", -1, x.one(-1, 1));
        Due.is("no such", -1, x.one(1, 8));
        Due.is("no such", -1, x.one(1, -1));
        Due.is("stays", 2, x.oneIs(10));
        Due.is("oneIs(-1)", -1, x.oneIs(-1));
        Due.is("oneIs(60)", -1, x.oneIs(60));
        Due.is("oneIs(59)", 0, x.oneIs(59));
        LendTown like = Due.townOf(Texts.ABC + "deal d b a 3 5 1;deal e a b 4 1 5;deal f b c 50 0 1;deal g b c 59 0 0;");
        Due.is("one", 5, like.one(1, 1));
        Due.is("nothing first", 0, like.oneIs(3));
        Due.is("borrows in 4", 2, like.oneIs(4));
        LendTown tie = Due.townOf(Texts.ABC + "part a lends;deal d b c 3 5 1;deal e a b 3 1 5;");
        Due.is("one", 5, tie.one(1, 1));
        Due.is("lends ahead of borrows", 1, tie.oneIs(3));
        // bound at a year without gain, so that he is free in time
        LendTown early2 = Due.townOf(Texts.ABC + "law years 3;deal d b c 5 4 0;deal e a b 7 0 4;deal f b c 4 0 0;");
        Due.is("both", 8, early2.one(1, 1));
        Due.is("nothing in 2", 0, early2.oneIs(2));
        Due.is("ahead of it", 0, early2.oneIs(3));
        Due.is("lends in 4", 1, early2.oneIs(4));
        Due.is("lends in 5", 1, early2.oneIs(5));
        Due.is("nothing in 6", 0, early2.oneIs(6));
        Due.is("borrows in 7", 2, early2.oneIs(7));
    }

    private static void lawfulWays() {
        LendTown x = Due.townOf(Texts.ABC + "deal d a b 5 3 4;deal e b c 4 9 0 either;deal f b a 5 1 1 either;");
        // by year: e, d, f; e turned leaves b a borrower: d and f turned go too
        Due.is("lawful", 18, x.lawful());
        Due.is("d", 1, x.lawfulBy(0));
        Due.is("e", 2, x.lawfulBy(1));
        Due.is("f", 2, x.lawfulBy(2));
        Due.is("no such", -1, x.lawfulBy(3));
        Due.is("no such", -1, x.lawfulBy(-1));
        Due.is("done counts nothing", 0, x.does(0, 0));
        Due.is("lawful", 18, x.lawful());
        Due.is("book stays", 1, x.count(3));
        Due.town(x, Texts.ABC + "limit a 1;deal d a b 5 1 1;deal e a b 5 1 1 either;");
        Due.is("told before", 2, x.lawfulBy(2));
        Due.is("lawful", 2, x.lawful());
        Due.is("not done first", 0, x.lawfulBy(0));
        Due.is("as told ahead of TURNED", 1, x.lawfulBy(1));
        Due.is("no such now", -1, x.lawfulBy(2));
        Due.town(x, Texts.AB + "limit a 9;" + Texts.deals(13, 5));
        Due.is("13 deals", -1, x.lawful());
        Due.is("stays", 1, x.lawfulBy(1));
        Due.is("none of then", -1, x.lawfulBy(2));
        Due.town(x, Texts.AB + "limit a 9;" + Texts.deals(12, 5));
        Due.is("12 deals", 18, x.lawful());
        for (int d = 0; d < 12; d++) {
            Due.is("the first ones are left out", d < 3 ? 0 : 1, x.lawfulBy(d));
        }
        LendTown zero = Due.townOf(Texts.AB + "deal d a b 5 0 0 either;");
        Due.is("lawful", 0, zero.lawful());
        Due.is("not done", 0, zero.lawfulBy(0));
        LendTown years = Due.townOf(Texts.AB + "law years 2;deal d a b 5 1 0;deal e b a 6 1 0;deal f b a 7 1 0;");
        Due.is("free again", 2, years.lawful());
        Due.is("d left out", 0, years.lawfulBy(0));
        Due.is("e", 1, years.lawfulBy(1));
        Due.is("f", 1, years.lawfulBy(2));
    }

    private static void fewestLenders() {
        LendTown x = Due.townOf(Texts.persons(5) + "deal da a b 1 0 0;deal db a c 1 0 0;deal dc d a 1 0 0;");
        Due.is("a lends, d has none who lends to him", 1 | 8, x.fewest());
        LendTown either = Due.townOf(Texts.persons(5) + "deal da b a 1 0 0 either;deal db c a 1 0 0 either;deal dc a d 1 0 0;");
        Due.is("a, turned", 1, either.fewest());
        LendTown two = Due.townOf(Texts.persons(4) + "deal da a b 1 0 0 either;deal db c d 1 0 0 either;");
        Due.is("the least set", 5, two.fewest());
        Due.is("no deals", 0, Due.townOf(Texts.persons(4)).fewest());
        Due.is("nobody", 0, new LendTown().fewest());
        LendTown often = Due.townOf(Texts.persons(2) + "deal da a b 1 0 0;deal db a b 1 0 0;deal dc a b 2 0 0;deal dd a b 2 0 0;");
        Due.is("two deals with one", 1, often.fewest());
        LendTown turned = Due.townOf(Texts.persons(3) + "deal da b a 1 0 0 either;deal db b a 1 0 0 either;deal dc a c 2 0 0;");
        Due.is("turned, two deals with one", 1, turned.fewest());
    }

    private static int meet(LendTown x, int... pairs) {
        Due.feed(x, Due.pairs(pairs));
        return x.meet();
    }

    private static int must(LendTown x, int what, int... pairs) {
        Due.feed(x, Due.pairs(pairs));
        int answer = x.must(what);
        Due.is("tape", 0, x.count(4));
        return answer;
    }

    private static int wrongly(LendTown x, int... pairs) {
        Due.feed(x, Due.pairs(pairs));
        int answer = x.wrongly();
        Due.is("tape", 0, x.count(4));
        return answer;
    }

    private static int[] repeated(int pairs) {
        int[] all = new int[2 * pairs];
        for (int i = 0; i < pairs; i++) {
            all[2 * i] = i % 2;
            all[2 * i + 1] = 1 - i % 2;
        }
        return all;
    }

    private static void meetings() {
        LendTown x = Due.townOf(Texts.persons(8));
        Due.is("nobody", 1, meet(x));
        Due.is("one pair", 2, meet(x, 3, 1));
        Due.is("twice", 2, meet(x, 3, 1, 3, 1));
        Due.is("two groups", 4, meet(x, 3, 1, 0, 2));
        Due.is("a chain", 2, meet(x, 0, 1, 1, 2, 2, 3));
        Due.is("a ring of four", 2, meet(x, 0, 1, 1, 2, 2, 3, 3, 0));
        Due.is("a ring of three", 0, meet(x, 6, 7, 0, 1, 1, 2, 2, 0));
        Due.is("a ring of five", 0, meet(x, 0, 1, 1, 2, 2, 3, 3, 4, 4, 0));
        Due.is("four groups", 16, meet(x, 0, 1, 2, 3, 4, 5, 6, 7));
        Due.is("no person", -1, meet(x, 0, 8));
        Due.is("no person", -1, meet(x, 8, 0));
        Due.is("no person", -1, meet(x, 255, 0));
        Due.is("no person", -1, meet(x, 0, 255));
        Due.is("himself", -1, meet(x, 0, 1, 2, 2));
        Due.is("odd", -1, meet(x, 0, 1, 2));
        Due.is("20 pairs", 2, meet(x, repeated(20)));
        Due.is("21 pairs", -1, meet(x, repeated(21)));
        Due.is("tape", 0, x.count(4));
        Due.is("must 0", 1 | 4, must(x, 0, 2, 1, 1, 0, 5, 4));
        Due.is("must 1", 2, must(x, 1, 2, 1, 1, 0, 5, 4));
        Due.is("least is 3", 8, must(x, 0, 7, 3));
        Due.is("7 borrows", 128, must(x, 1, 7, 3));
        Due.is("far away", 0b1010101, must(x, 0, 0, 1, 3, 2, 2, 1, 3, 4, 4, 5, 5, 6));
        Due.is("far away", 0b0101010, must(x, 1, 0, 1, 3, 2, 2, 1, 3, 4, 4, 5, 5, 6));
        Due.is("nobody met", -1, must(x, 0));
        Due.is("they can't", -1, must(x, 0, 0, 1, 2, 3, 3, 4, 4, 2));
        Due.is("another what", -1, must(x, 2, 0, 1));
        Due.is("another what", -1, must(x, -1, 0, 1));
        Due.is("not as told", -1, must(x, 0, 0, 0));
        Due.is("20 pairs", 1, must(x, 0, repeated(20)));
        Due.is("21 pairs", -1, must(x, 0, repeated(21)));
    }

    private static void falseMeetings() {
        LendTown x = Due.townOf(Texts.persons(8));
        Due.is("none", 0, wrongly(x));
        Due.is("none", 0, wrongly(x, 0, 1));
        Due.is("one of three, the least", 1, wrongly(x, 0, 1, 1, 2, 2, 0));
        Due.is("the one of both rings", 2, wrongly(x, 0, 2, 0, 1, 2, 1, 0, 3, 3, 1));
        Due.is("two rings", 1 | 8, wrongly(x, 0, 1, 1, 2, 2, 0, 3, 4, 4, 5, 5, 3));
        Due.is("told twice", 4, wrongly(x, 0, 1, 0, 1, 1, 2, 2, 0, 2, 0));
        Due.is("16 pairs", 0, wrongly(x, repeated(16)));
        Due.is("17 pairs", -1, wrongly(x, repeated(17)));
        Due.is("not as told", -1, wrongly(x, 0, 8));
        Due.is("odd", -1, wrongly(x, 0));
        Due.is("himself", -1, wrongly(x, 4, 4));
    }

    private static void betweens() {
        LendTown x = Due.townOf("person a 0 59;person b 0 59;person c 0 59;person d 0 59;law years 2;limit b 0;"
            + "deal da a b 5 1 1;deal db b c 5 1 1;deal dc c d 6 1 1 either;deal dd d c 6 1 1;deal de d a 6 1 1;deal df a c 4 1 1;");
        Due.is("b between a and c", 2, x.between(5));
        Due.is("d: of c, to a; c of d to d alone; a borrows alone", 8, x.between(6));
        Due.is("no deal", 0, x.between(7));
        Due.is("one deal", 0, x.between(4));
        Due.is("no year", -1, x.between(-1));
        Due.is("no year", -1, x.between(60));
        Due.is("last year", 0, x.between(59));
        Due.is("a lends to c in 4", 0, x.does(5, 0));
        Due.is("c may borrow, a may lend", 2, x.between(5));
        Due.is("b is bound", 0, x.does(0, 1) == 2 ? 0 : 1);
        LendTown y = Due.townOf(Texts.ABCD + "deal da a b 5 1 1;deal db b c 5 1 1;deal dc b d 5 1 1;deal dd c d 4 1 1;deal de d a 4 1 1;");
        Due.is("b", 2, y.between(5));
        y.does(4, 0);
        Due.is("a borrowed", 0, y.between(5));
        y.undo();
        y.does(3, 0);
        Due.is("c lent, d may borrow", 2, y.between(5));
        LendTown z = Due.townOf(Texts.ABC + "deal da a b 5 1 1;deal db b c 5 1 1;deal dc c a 4 1 1;");
        z.does(2, 0);
        Due.is("a may not lend, c not borrow", 0, z.between(5));
        LendTown edges = Due.townOf("person a 5 9;person b 0 59;person c 0 59;"
            + "deal da b a 5 1 1;deal db a c 5 1 1;deal dc b a 9 1 1;deal dd a c 9 1 1;deal de b a 6 1 1;deal df b a 6 1 1;"
            + "deal dg a c 6 1 1;deal dh c a 7 1 1 either;deal di a c 7 1 1 either;");
        Due.is("the year he is born in", 1, edges.between(5));
        Due.is("the year he dies in", 1, edges.between(9));
        Due.is("two deals with one lender", 1, edges.between(6));
        Due.is("with one person alone", 0, edges.between(7));
        LendTown done = Due.townOf(Texts.ABC + "law years 1;deal da a b 5 1 1;deal db b c 5 1 1;deal dc a b 4 1 1;");
        done.does(0, 0);
        Due.is("a done deal is none, and b is a borrower", 0, done.between(5));
    }

    private static int draw(int[] x, int n) {
        x[0] = x[0] * 1103515245 + 12345;
        return (x[0] >>> 8) % n;
    }

    private static void runs() {
        LendTown x = Due.townOf(Texts.ABC + "limit b 2;deal da a b 7 1 1;deal db b c 5 1 1 either;deal dc c a 6 1 1 either;deal dd a b 5 1 1 either;");
        int[] order = {1, 3, 2, 0};
        boolean[] either = {false, true, true, true};
        for (int seed = -40; seed < 40; seed++) {
            LendTown y = Due.townOf(Texts.ABC + "limit b 2;deal da a b 7 1 1;deal db b c 5 1 1 either;deal dc c a 6 1 1 either;deal dd a b 5 1 1 either;");
            int[] state = {seed * 1234567};
            int done = 0;
            int wrong = 0;
            for (int d : order) {
                int draw = draw(state, 4);
                if (draw == 0) {
                    continue;
                }
                if (y.does(d, draw == 1 && either[d] ? 1 : 0) == 0) {
                    done++;
                } else {
                    wrong++;
                }
            }
            Due.is("run", done, x.run(seed * 1234567));
            Due.is("refused", wrong, x.refused());
            Due.is("done", done, x.count(3));
            for (int d = 0; d < 4; d++) {
                Due.is("deal done", y.deal(d, 6), x.deal(d, 6));
            }
        }
        int last = x.refused();
        Due.town(x, Texts.AB);
        Due.is("no deals", -1, x.run(1));
        Due.is("refused stays", last, x.refused());
    }

    private static void images() {
        LendTown x = Due.townOf(Texts.AB + "law years 5;part b lends;deal d a b 5 3 4;deal e b a 20 1 1;");
        x.does(0, 0);
        Due.is("lawful", 9, x.lawful());
        Due.is("rests", 2, x.rests(-1));
        Due.is("best", 7, x.best());
        Due.yes("image(0)", x.image(0));
        Due.no("image(2)", x.image(2));
        Due.no("image(-1)", x.image(-1));
        Due.no("restore(1)", x.restore(1));
        Due.no("restore(2)", x.restore(2));
        Due.no("restore(-1)", x.restore(-1));
        x.does(1, 0);
        Due.is("image is apart", 2, x.count(3));
        Due.yes("image(1)", x.image(1));
        Due.is("other town", -5, Due.town(x, "law x;"));
        Due.is("other town", 3, Due.town(x, "person z 4 5;person y 4 5;person x 4 5;"));
        Due.is("climb", 0, x.climb(0));
        Due.is("best", 0, x.best());
        Due.is("lawful", 0, x.lawful());
        Due.is("rests", 8, x.rests(-1));
        Due.feed(x, "abc");
        Due.yes("restore(0)", x.restore(0));
        Due.is("tape stays", 3, x.count(4));
        Due.is("done", 1, x.count(3));
        Due.is("persons", 2, x.count(0));
        Due.is("deals", 2, x.count(1));
        Due.is("law", 5, x.count(2));
        Due.is("best", 7, x.best());
        Due.is("is", 1, x.is(0, 9));
        Due.is("is", 0, x.is(0, 10));
        Due.is("had", 3, x.had(0));
        x.undo();
        Due.yes("restore(0) again", x.restore(0));
        Due.is("done", 1, x.count(3));
        Due.yes("restore(1)", x.restore(1));
        Due.is("done", 2, x.count(3));
        Due.is("told", 2, x.told());
        Due.is("rests", 2, x.rests(-1));
        Due.is("lawful", 9, x.lawful());
        x.end(0);
        Due.is("book, names are kept", -1, Due.book(x, "d;e;"));
        Due.is("faulty town leaves all", -1, Due.town(x, "x"));
        Due.yes("restore(0)", x.restore(0));
        Due.is("fault stays", 1, x.fault());
    }

    private static void counts() {
        LendTown x = Due.townOf(Texts.ABC + "law years 60;deal d a b 5 3 4;");
        x.does(0, 0);
        Due.feed(x, "four");
        int[] want = {3, 1, 60, 1, 4};
        for (int what = 0; what < 5; what++) {
            Due.is("count(" + what + ")", want[what], x.count(what));
        }
        Due.is("count(5)", -1, x.count(5));
        Due.is("count(-1)", -1, x.count(-1));
    }
}
