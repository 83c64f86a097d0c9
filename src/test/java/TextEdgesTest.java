/** Each sentence of the document that names a boundary case of texts: TOKENS, a TOWN, its FAULTS. */
public final class TextEdgesTest {
    private static final String[] WORDS = {"person", "limit", "deal", "either", "law", "life", "years", "part", "lends",
        "borrows", "turned"};

    public static void main(String[] args) {
        words();
        numbers();
        blanksBetween();
        tokensGoOn();
        noTokens();
        mostBytes();
        bornAndDies();
        limit();
        unlike();
        yearsOfDeals();
        gains();
        either();
        law();
        parts();
        toldWords();
        toldOnce();
        mostPersonsAndDeals();
        numbered();
        firstFault();
        leastFault();
        faultAtTheEnd();
        readWhole();
        moreBytes();
        badNumbers();
        badNames();
        toldAgain();
        tooMany();
        linesOfATown();
        Due.end();
    }

    private static void words() {
        Due.sentence("WORDS: small letters, 1 to 7");
        Texts.isTown("person a 0 59;", 1);
        Texts.isTown("person abcdefg 0 59;", 1);
        Texts.townFault("person ^abcdefgh 0 59;", 1);
        Texts.townFault("person ^" + "a".repeat(40) + " 0 59;", 1);
        Texts.townFault("person ^0 59;", 1);
        Texts.townFault("^persons a 0 59;", 1);
        Texts.isTown("person az 0 59;person za 0 59;person zzzzzzz 0 59;person aaaaaaa 0 59;", 4);
        Texts.townFault("person ^` 0 59;", 1);
        Texts.townFault("person a^` 0 59;", 1);
        Texts.townFault("person ^{ 0 59;", 1);
        Texts.townFault("person z^{ 0 59;", 1);
        Texts.townFault("person ^A 0 59;", 1);
        Texts.townFault("person ^Z 0 59;", 1);
        Texts.townFault("^Person a 0 59;", 1);
    }

    private static void numbers() {
        Due.sentence("NUMBERS: 1 to 2 digits");
        Texts.isTown("person a 0 9;", 1);
        Texts.isTown("person a 00 09;", 1);
        Texts.isTown("person a 10 19;", 1);
        Texts.townFault("person a ^000 59;", 1);
        Texts.townFault("person a 0 ^059;", 1);
        Texts.townFault("person a 0 ^" + "0".repeat(40) + ";", 1);
        Texts.townFault("person a ^/ 59;", 1);
        Texts.townFault("person a ^: 59;", 1);
        Texts.townFault("person a 0^/ 59;", 1);
        Texts.townFault("person a 9^: 59;", 1);
        Texts.townFault("person a ^-1 59;", 1);
        Texts.townFault("person a ^+1 59;", 1);
        LendTown x = Due.townOf("person a 07 10;person b 9 19;");
        Due.is("born", 7, x.person(0, 0));
        Due.is("dies", 10, x.person(0, 1));
        Due.is("born", 9, x.person(1, 0));
        Due.is("dies", 19, x.person(1, 1));
    }

    private static void blanksBetween() {
        Due.sentence("with blanks (32, 10) between them or not");
        Texts.isTown("person a 0 59;law life;", 2);
        Texts.isTown(" \n person \n a\n\n0  59 \n;\n law\nlife ; ", 2);
        Texts.isTown("person\na\n0\n59\n;", 1);
        for (int sign : new int[] {0, 9, 11, 12, 13, 31, 33, 95, 127, 128, 138, 160, 255}) {
            Texts.townFault("person a^" + (char) sign + "0 59;", 1);
            Texts.townFault("^" + (char) sign + "person a 0 59;", 1);
        }
        Texts.isTown("", 0);
        Texts.isTown(" ", 0);
        Texts.isTown("\n", 0);
    }

    private static void tokensGoOn() {
        Due.sentence("a WORD, NUMBER goes on as long as small letters and digits do; what is not as told is no TOKEN");
        Texts.townFault("^persona 0 59;", 1);
        Texts.townFault("^person5 0 59;", 1);
        Texts.townFault("person ^a0 59;", 1);
        Texts.townFault("person ^0a 59;", 1);
        Texts.townFault("person a ^0a 59;", 1);
        Texts.townFault("person a ^a0 59;", 1);
        Texts.townFault("person a 0 ^5x;", 1);
        Texts.townFault("law ^years3;", 1);
        Texts.townFault("law ^life5;", 1);
        Texts.townFault(Texts.AB + "part a ^lends0;", 1);
        Texts.townFault(Texts.AB + "limit a ^1a;", 1);
        Texts.townFault(Texts.AB + "deal d a b 1 1 ^1either;", 1);
        Texts.isTown(Texts.AB + "deal d a b 1 1 1 either;", 3);
        Texts.isTown("person a 0 1;person b 0 12;", 2);
    }

    private static void noTokens() {
        Due.sentence("TOKENS of all texts: WORDS, NUMBERS, ;");
        for (int sign : new int[] {'.', ',', ':', '<', '-', '#', '}', 0, 1, 127, 128, 187, 255}) {
            Texts.townFault("person a 0 59;^" + (char) sign, 1);
            Texts.townFault("person a 0 59^" + (char) sign, 1);
        }
        Texts.isTown("person a 0 59;", 1);
        Texts.townFault("^;", 1);
        Texts.townFault("person a 0 59;^;", 1);
        Texts.townFault("person^; a 0 59;", 1);
    }

    private static void mostBytes() {
        Due.sentence("A TOWN is a text of at most 900 bytes");
        String line = "person a 0 59;";
        Texts.isTown(Texts.upTo(900, line), 1);
        Texts.townFault(Texts.upTo(901, line), 900, 1);
        Texts.townFault(Texts.upTo(940, line), 900, 1);
        Texts.isTown(Texts.blanks(900 - line.length()) + line, 1);
        Texts.townFault(Texts.blanks(901 - line.length()) + line, 900, 1);
        Texts.isTown(Texts.blanks(900), 0);
        Texts.townFault(Texts.blanks(901), 900, 1);
        Texts.isTown(Texts.upTo(899, line), 1);
    }

    private static void bornAndDies() {
        Due.sentence("years 0 to 59");
        Texts.isTown("person a 0 59;", 1);
        Texts.isTown("person a 59 59;", 1);
        Texts.isTown("person a 0 0;", 1);
        Texts.townFault("person a ^60 60;", 2);
        Texts.townFault("person a ^99 99;", 2);
        Texts.townFault("person a 0 ^60;", 2);
        Texts.townFault("person a 59 ^60;", 2);
        Texts.townFault("person a 0 ^99;", 2);
        Due.sentence("DIES no less than BORN");
        Texts.isTown("person a 7 7;", 1);
        Texts.isTown("person a 7 8;", 1);
        Texts.townFault("person a 7 ^6;", 2);
        Texts.townFault("person a 59 ^58;", 2);
        Texts.townFault("person a 1 ^0;", 2);
    }

    private static void limit() {
        Due.sentence("'limit' PERSON N (0 to 9; 9 without; once each)");
        LendTown x = Due.townOf(Texts.ABC + "limit a 0;limit c 8;");
        Due.is("limit 0", 0, x.person(0, 2));
        Due.is("without", 9, x.person(1, 2));
        Due.is("limit 8", 8, x.person(2, 2));
        LendTown nine = Due.townOf(Texts.AB + "limit b 9;");
        Due.is("limit 9", 9, nine.person(1, 2));
        Texts.townFault(Texts.AB + "limit a ^10;", 2);
        Texts.townFault(Texts.AB + "limit a ^99;", 2);
        Texts.townFault(Texts.AB + "limit a ^100;", 1);
        Texts.isTown(Texts.AB + "limit a 1;limit b 1;", 4);
        Texts.townFault(Texts.AB + "limit a 1;limit b 1;limit ^a 1;", 3);
        Texts.townFault(Texts.AB + "limit b 9;limit ^b 9;", 3);
    }

    private static void unlike() {
        Due.sentence("the lender, the borrower, unlike");
        Texts.isTown(Texts.AB + "deal d a b 5 1 1;deal e b a 5 1 1;", 4);
        Texts.townFault(Texts.AB + "deal d a ^a 5 1 1;", 3);
        Texts.townFault(Texts.AB + "deal d b ^b 5 1 1;", 3);
    }

    private static void yearsOfDeals() {
        Due.sentence("a YEAR in which both live");
        String lives = "person a 3 30;person b 5 20;";
        Texts.isTown(lives + "deal d a b 5 1 1;deal e b a 5 1 1;deal f a b 20 1 1;deal g b a 20 1 1;", 6);
        Texts.townFault(lives + "deal d a b ^4 1 1;", 2);
        Texts.townFault(lives + "deal d b a ^4 1 1;", 2);
        Texts.townFault(lives + "deal d a b ^21 1 1;", 2);
        Texts.townFault(lives + "deal d b a ^21 1 1;", 2);
        Texts.isTown("person a 8 8;person b 8 8;deal d a b 8 1 1;", 3);
        Texts.townFault("person a 8 8;person b 9 9;deal d a b ^8 1 1;", 2);
        Texts.townFault("person a 8 8;person b 9 9;deal d a b ^9 1 1;", 2);
        Texts.townFault("person a 8 8;person b 9 9;deal d b a ^8 1 1;", 2);
        Texts.isTown(Texts.AB + "deal d a b 0 1 1;deal e a b 59 1 1;", 4);
        Texts.townFault(Texts.AB + "deal d a b ^60 1 1;", 2);
        Texts.townFault(Texts.AB + "deal d a b ^99 1 1;", 2);
    }

    private static void gains() {
        Due.sentence("0 to 99, the lender's gain, the borrower's");
        LendTown x = Due.townOf(Texts.AB + "deal d a b 5 0 99;deal e a b 5 99 0;deal f b a 5 98 1;");
        int[][] want = {{0, 99}, {99, 0}, {98, 1}};
        for (int d = 0; d < 3; d++) {
            Due.is("the lender's of " + d, want[d][0], x.deal(d, 3));
            Due.is("the borrower's of " + d, want[d][1], x.deal(d, 4));
        }
        Texts.townFault(Texts.AB + "deal d a b 5 ^100 1;", 1);
        Texts.townFault(Texts.AB + "deal d a b 5 1 ^100;", 1);
        Texts.townFault(Texts.AB + "deal d a b 5 1^;", 1);
        Texts.townFault(Texts.AB + "deal d a b 5 1 1 ^1;", 1);
    }

    private static void either() {
        Due.sentence("[ 'either' ]");
        LendTown x = Due.townOf(Texts.AB + "deal d a b 5 1 1;deal e a b 5 1 1 either;deal f a b 5 1 1;");
        Due.is("without", 0, x.deal(0, 5));
        Due.is("told", 1, x.deal(1, 5));
        Due.is("the next one is without", 0, x.deal(2, 5));
        Texts.townFault(Texts.AB + "deal d a b 5 1 1 either ^either;", 1);
        Texts.townFault(Texts.AB + "deal d a b 5 1 ^either;", 1);
        Texts.townFault(Texts.AB + "person c 0 5 ^either;", 1);
        Texts.townFault(Texts.AB + "deal d a b 5 1 1 ^turned;", 1);
    }

    private static void law() {
        Due.sentence("'law' ( 'life' | 'years' N ) (once; N 1 to 60; 'life' without)");
        Due.is("life", 0, Due.townOf("law life;").count(2));
        Due.is("years 1", 1, Due.townOf("law years 1;").count(2));
        Due.is("years 60", 60, Due.townOf("law years 60;").count(2));
        Due.is("without", 0, Due.townOf("person a 0 5;").count(2));
        Texts.townFault("law years ^0;", 2);
        Texts.townFault("law years ^00;", 2);
        Texts.townFault("law years ^61;", 2);
        Texts.townFault("law years ^99;", 2);
        Texts.townFault("law years^;", 1);
        Texts.townFault("law^;", 1);
        Texts.townFault("law ^5;", 1);
        Texts.townFault("law life ^5;", 1);
        Texts.townFault("law years 5;^law years 5;", 3);
        Texts.townFault("law life;^law years 5;", 3);
        Texts.townFault("law years 5;^law life;", 3);
    }

    private static void parts() {
        Due.sentence("'part' PERSON ( 'lends' | 'borrows' ) (once each; without one he borrows)");
        LendTown x = Due.townOf(Texts.ABC + "part c lends;part b borrows;");
        Due.is("told()", 4, x.told());
        Due.is("without", 0, x.person(0, 3));
        Due.is("borrows", 0, x.person(1, 3));
        Due.is("lends", 1, x.person(2, 3));
        Texts.townFault(Texts.AB + "part a lends;part ^a lends;", 3);
        Texts.townFault(Texts.AB + "part a borrows;part ^a borrows;", 3);
        Texts.townFault(Texts.AB + "part a lends;part b lends;part ^a borrows;", 3);
        Texts.townFault(Texts.AB + "part a^;", 1);
        Texts.townFault(Texts.AB + "part a ^either;", 1);
    }

    private static void toldWords() {
        Due.sentence("NAME: a WORD, none of those told here or in a BOOK");
        for (String word : WORDS) {
            Texts.townFault("person ^" + word + " 0 59;", 1);
            Texts.townFault(Texts.AB + "deal ^" + word + " a b 1 1 1;", 1);
            String near = word.length() == 7 ? word.substring(1) : word + "x";
            Texts.isTown("person " + near + " 0 59;", 1);
            Texts.isTown("person " + word.substring(1) + " 0 59;", 1);
            Texts.isTown("person " + word.substring(0, word.length() - 1) + "q 0 59;", 1);
        }
        Texts.isTown("person abcdefg 0 59;person abcdefh 0 59;person bbcdefg 0 59;person abcdef 0 59;", 4);
        Texts.isTown("person a 0 5;person aa 0 5;person aaa 0 5;person b 0 5;person ab 0 5;person ba 0 5;person z 0 5;person zz 0 5;", 8);
    }

    private static void toldOnce() {
        Due.sentence("NAME: told once");
        Texts.townFault("person a 0 59;person ^a 0 59;", 3);
        Texts.townFault("person a 0 59;person b 0 59;person c 0 59;person ^b 0 59;", 3);
        Texts.townFault(Texts.AB + "deal d a b 1 1 1;person ^d 0 59;", 3);
        Texts.townFault(Texts.AB + "deal ^a a b 1 1 1;", 3);
        Texts.townFault(Texts.AB + "deal d a b 1 1 1;deal ^d a b 1 1 1;", 3);
        Texts.isTown(Texts.AB + "deal d a b 1 1 1;person e 0 59;deal f a e 1 1 1;", 5);
        LendTown x = Due.townOf(Texts.AB);
        Due.is("a NAME of the older TOWN is told again", 2, Due.town(x, Texts.AB));
    }

    private static void mostPersonsAndDeals() {
        Due.sentence("10 PERSONS, 30 DEALS at most");
        Texts.isTown(Texts.persons(9), 9);
        Texts.isTown(Texts.persons(10), 10);
        Texts.townFault(Texts.persons(10) + "^person k 0 59;", 4);
        Texts.isTown(Texts.AB + Texts.deals(29, 5), 31);
        Texts.isTown(Texts.AB + Texts.deals(30, 5), 32);
        Texts.townFault(Texts.AB + Texts.deals(30, 5) + "^deal z a b 5 1 1;", 4);
    }

    private static void numbered() {
        Due.sentence("numbered from 0 each");
        LendTown x = Due.townOf("person a 4 59;person b 5 59;deal d a b 7 1 1;person c 6 59;deal e c a 8 1 1;");
        for (int p = 0; p < 3; p++) {
            Due.is("born of " + p, 4 + p, x.person(p, 0));
        }
        Due.is("year of 0", 7, x.deal(0, 2));
        Due.is("year of 1", 8, x.deal(1, 2));
        Due.is("lender of 1", 2, x.deal(1, 0));
        Due.is("borrower of 1", 0, x.deal(1, 1));
        LendTown most = Due.townOf(Texts.persons(10));
        Due.is("the last person", 59, most.person(9, 1));
        LendTown deals = Due.townOf(Texts.AB + Texts.deals(29, 5) + "deal z a b 6 1 1;");
        Due.is("the last deal", 6, deals.deal(29, 2));
    }

    private static void firstFault() {
        Due.sentence("FAULTS, the first along the text");
        Texts.townFault("person a ^60 59;law law;", 2);
        Texts.townFault("person a 0 59;law ^law;person a 60 59;", 1);
        Texts.townFault("person a 0 59;person ^a 60 59;.", 3);
        Texts.townFault(Texts.persons(10) + "^person a 60;.", 4);
        Texts.townFault("person a 9 ^8 .", 2);
        Texts.townFault("person a 9 9 ^. person", 1);
    }

    private static void leastFault() {
        Due.sentence("of one TOKEN the least");
        Texts.townFault("law life;person ^law 0 59;", 1);
        Texts.townFault(Texts.persons(10) + "limit ^person 1;", 1);
        Texts.townFault(Texts.AB + Texts.deals(30, 5) + "law ^deal;", 1);
        Texts.townFault(Texts.AB + "limit a 1;limit ^limit 1;", 1);
        Texts.townFault(Texts.AB + "deal d a ^5 1 1;", 1);
        Texts.townFault(Texts.AB + "deal d a b ^100 1 1;", 1);
        Texts.townFault("law ^law;", 1);
        Texts.townFault("person a 8 ^600;", 1);
    }

    private static void faultAtTheEnd() {
        Due.sentence("FAULT 1 at the end: how many bytes there are");
        for (String text : new String[] {"person", "person a", "person a 0", "person a 0 59", "law", "law life", "law years",
            "law years 5", "limit", "deal", "part", "person a 0 59 ", "person a 0 59\n\n", "law life \n "}) {
            Texts.townFault(text, text.length(), 1);
        }
        for (String text : new String[] {"limit a", "limit a 5", "part a", "part a lends", "part a borrows", "deal d", "deal d a",
            "deal d a b", "deal d a b 5", "deal d a b 5 1", "deal d a b 5 1 1", "deal d a b 5 1 1 either"}) {
            Texts.townFault(Texts.AB + text, Texts.AB.length() + text.length(), 1);
            Texts.isTown(Texts.AB + "person c 0 5;", 3);
        }
        String line = "person a 0 59";
        Texts.townFault(Texts.upTo(899, line), 899, 1);
        Texts.townFault(Texts.upTo(900, line), 900, 1);
        Texts.townFault(Texts.upTo(901, line), 900, 1);
    }

    private static void readWhole() {
        Due.sentence("TOKENS that begin ahead of the most bytes are read whole");
        String line = "person a 0 59;";
        Texts.townFault(Texts.upTo(899, line) + "law life;", 900, 1);
        Texts.townFault(Texts.upTo(899, line) + "lax life;", 899, 1);
        Texts.townFault(Texts.upTo(899, line) + "l", 899, 1);
        Texts.townFault(Texts.upTo(900, line) + "lax life;", 900, 1);
        Texts.townFault(Texts.upTo(898, line + "law years") + "60;", 900, 1);
        Texts.townFault(Texts.upTo(899, line + "law years") + "60;", 900, 1);
        Texts.townFault(Texts.upTo(899, line + "law years") + "61;", 899, 2);
        Texts.townFault(Texts.upTo(900, line + "law years") + "61;", 900, 1);
        Texts.townFault(Texts.upTo(899, line + "law years") + "600;", 899, 1);
        Texts.townFault(Texts.upTo(899, line + "law life;") + "law", 899, 3);
        Texts.townFault(Texts.upTo(900, line + "law life;") + "law", 900, 1);
        Texts.townFault(Texts.upTo(899, "person") + "abcdefg 0 59;", 900, 1);
        Texts.townFault(Texts.upTo(899, "person") + "abcdefgh 0 59;", 899, 1);
        Texts.townFault(Texts.upTo(899, Texts.persons(10)) + "person", 899, 4);
        Texts.townFault(Texts.upTo(900, Texts.persons(10)) + "person", 900, 1);
        Texts.townFault(Texts.upTo(899, line) + "l".repeat(41), 899, 1);
    }

    private static void moreBytes() {
        Due.sentence("the most bytes told, if there are more and no FAULT is ahead");
        Texts.townFault(Texts.upTo(940, "person a 0 60;"), 11, 2);
        Texts.townFault(Texts.upTo(899, "person a 0 59;") + "." + Texts.blanks(40), 899, 1);
        Texts.townFault(Texts.upTo(900, "person a 0 59;") + "." + Texts.blanks(39), 900, 1);
        Texts.townFault(Texts.upTo(901, "person a 0 59;") + "." + Texts.blanks(38), 900, 1);
        Texts.townFault(Texts.upTo(939, "person a 0 59;") + ".", 900, 1);
    }

    private static void badNumbers() {
        Due.sentence("2 a NUMBER that is not as told (at it; a YEAR in which one does not live, too)");
        Texts.townFault("person a ^60 5;", 2);
        Texts.townFault("person a 5 ^4 5;", 2);
        Texts.townFault("person a 0 59;limit a ^10", 2);
        Texts.townFault("law years ^0", 2);
        Texts.townFault("person a 5 9;person b 0 59;deal d a b ^4", 2);
        Texts.townFault("person a 5 9;person b 0 59;deal d a b ^10", 2);
        Texts.townFault("person a 5 9;person b 0 59;deal d b a ^4", 2);
        Texts.townFault("person a 5 9;person b 0 59;deal d b a ^10", 2);
    }

    private static void badNames() {
        Due.sentence("3 a NAME told twice, not told, or of another sort, one PERSON twice in a DEAL (at it)");
        Texts.townFault(Texts.AB + "person ^b", 3);
        Texts.townFault(Texts.AB + "limit ^c", 3);
        Texts.townFault(Texts.AB + "part ^c", 3);
        Texts.townFault(Texts.AB + "deal d ^c", 3);
        Texts.townFault(Texts.AB + "deal d a ^c", 3);
        Texts.townFault(Texts.AB + "deal d ^d", 3);
        Texts.townFault(Texts.AB + "limit ^c 1;person c 0 59;", 3);
        Texts.townFault(Texts.AB + "deal d a b 1 1 1;limit ^d", 3);
        Texts.townFault(Texts.AB + "deal d a b 1 1 1;part ^d", 3);
        Texts.townFault(Texts.AB + "deal d a b 1 1 1;deal e ^d", 3);
        Texts.townFault(Texts.AB + "deal d a b 1 1 1;deal e a ^d", 3);
        Texts.townFault(Texts.AB + "deal d a ^a", 3);
    }

    private static void toldAgain() {
        Due.sentence("3 limit, part of one told again (at the PERSON), law told again (at its WORD)");
        Texts.townFault(Texts.AB + "limit a 1;limit ^a", 3);
        Texts.townFault(Texts.AB + "part a lends;part ^a", 3);
        Texts.townFault(Texts.AB + "limit b 1;limit a 1;limit ^b", 3);
        Texts.townFault(Texts.AB + "part b lends;part a lends;part ^b", 3);
        Texts.townFault(Texts.persons(10) + "part j lends;part ^j", 3);
        Texts.townFault(Texts.persons(10) + "limit j 1;limit ^j", 3);
        Texts.isTown(Texts.AB + "limit a 1;part a lends;limit b 1;part b lends;", 6);
        Texts.townFault("law life;^law", 3);
        Texts.townFault("law years 9;person a 0 59;^law", 3);
    }

    private static void tooMany() {
        Due.sentence("4 an 11th PERSON, a 31st DEAL (at the LINE's first WORD)");
        Texts.townFault(Texts.persons(10) + "\n^person", 4);
        Texts.townFault(Texts.persons(10) + "^person a 70 80;", 4);
        Texts.townFault(Texts.AB + Texts.deals(30, 5) + " ^deal", 4);
        Texts.townFault(Texts.AB + Texts.deals(30, 5) + "^deal a a a 60;", 4);
        Texts.isTown(Texts.persons(10) + "law life;limit j 1;deal z j a 5 1 1;", 13);
        Texts.isTown(Texts.AB + Texts.deals(30, 5) + "person c 0 59;limit c 1;", 34);
    }

    private static void linesOfATown() {
        Due.sentence("town(): how many LINES; -1 less the place of a FAULT: the TOWN stays");
        Texts.isTown("", 0);
        Texts.isTown("law life;", 1);
        Texts.isTown("person a 0 59;limit a 1;part a lends;law years 3;person b 0 59;deal d a b 5 1 1;", 6);
        Texts.townFault("^.", 1);
        Texts.townFault(" ^.", 1);
        LendTown x = Due.townOf(Texts.AB);
        Due.is("an empty text is a TOWN of nobody", 0, Due.town(x, ""));
        Due.is("persons", 0, x.count(0));
    }
}
