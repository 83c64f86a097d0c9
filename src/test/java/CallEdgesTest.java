import java.util.NoSuchElementException;

/** Each sentence that names a boundary case of single calls: what they refuse, and the state behind it. */
public final class CallEdgesTest {
    /** Arguments that are none of any PERSON, DEAL, PARTS, year, place or what. */
    private static final int[] NONE_SUCH = {-1, -2, Integer.MIN_VALUE, Integer.MAX_VALUE, 1 << 20, 1 << 30};

    public static void main(String[] args) {
        newObject();
        calls512();
        feedMost();
        feedBytes();
        end();
        tapeEmptied();
        townReplaces();
        townStays();
        personNone();
        dealNone();
        does();
        undo();
        refusedByPersonAndYear();
        refusedByParts();
        refusedByPersonAndParts();
        refusedOthers();
        may();
        had();
        told();
        meetNotAsTold();
        meetCanBe();
        must();
        mustNone();
        wrongly();
        wronglyNone();
        runNone();
        refused();
        images();
        imagesAreApart();
        imagesOfWhatIsReckoned();
        restoreLeaves();
        restoreNone();
        counts();
        readersChangeNothing();
        Due.end();
    }

    private static void newObject() {
        Due.sentence("LendTown(): An empty TOWN; an empty tape");
        LendTown x = new LendTown();
        int[] none = {0, 0, 0, 0, 0};
        for (int what = 0; what < none.length; what++) {
            Due.is("count(" + what + ")", none[what], x.count(what));
        }
        Due.is("end(0)", 1, x.end(0) ? 1 : 0);
        Due.is("end(1)", 0, x.end(1) ? 1 : 0);
        Due.is("told()", 0, x.told());
        Due.is("the tape is a TOWN of no LINES", 0, x.town());
        Due.is("NONE", -1, LendTown.NONE);
        Due.is("fault()", 0, new LendTown().fault());
        Due.is("why()", 0, new LendTown().why());
        Due.is("restore(0)", 0, new LendTown().restore(0) ? 1 : 0);
        Due.is("may(0)", 0, new LendTown().may(0));
        Due.is("may(1)", 0, new LendTown().may(1));
    }

    private static void calls512() {
        Due.sentence("An object is used for at most 512 calls");
        LendTown x = new LendTown();
        x.feed(0x6c617720, 0x6c696665, 0x3b000000, 0, 0);
        x.end(9);
        Due.is("town()", 1, x.town());
        for (int call = 4; call < 512; call++) {
            Due.is("call " + call, 1, x.above(0));
        }
        Due.is("call 512", 0, x.count(2));
    }

    private static void feedMost() {
        Due.sentence("feed(): how many it has; NONE, and none come, if it would have more than 940");
        LendTown x = new LendTown();
        for (int i = 1; i <= 47; i++) {
            Due.is("feed " + i, 20 * i, x.feed(0x20202020, 0x20202020, 0x20202020, 0x20202020, 0x20202020));
        }
        Due.is("feed, full", -1, x.feed(1, 2, 3, 4, 5));
        Due.is("count(4)", 940, x.count(4));
        x.end(900);
        Due.is("none came: blanks alone", 0, x.town());
        for (int size : new int[] {919, 920, 921, 939, 940}) {
            LendTown y = new LendTown();
            Due.feed(y, Texts.upTo(size, "person a 0 5;person b 0 5;"));
            Due.is("fed", size, y.count(4));
            Due.is("feed behind " + size, size > 920 ? -1 : size + 20, y.feed(0, 0, 0, 0, 0));
            Due.is("count(4) behind " + size, size > 920 ? size : size + 20, y.count(4));
            y.end(900);
            Due.is("what was there", 2, y.town());
        }
    }

    private static void feedBytes() {
        Due.sentence("feed(): Twenty bytes come behind the tape, of each number the highest first");
        LendTown x = new LendTown();
        x.feed(0x70657273, 0x6f6e2061, 0x20312032, 0x3b6c6177, 0x20796561);
        x.feed(0x72732039, 0x3b20200a, 0x0a0a0a20, 0x20202020, 0x20202020);
        Due.is("count(4)", 40, x.count(4));
        Due.is("town()", 2, x.town());
        Due.is("born", 1, x.person(0, 0));
        Due.is("years", 9, x.count(2));
        x.feed(0x80ffffff, -1, -1, -1, Integer.MIN_VALUE);
        Due.is("no TOKEN", -1, x.town());
        LendTown y = Due.townOf(Texts.persons(3));
        y.feed(0x00010102, 0, 0, 0, 0);
        y.end(4);
        Due.is("meet", 2, y.meet());
        y.feed(0x00ff0000, 0, 0, 0, 0);
        y.end(2);
        Due.is("byte 255", -1, y.meet());
        y.feed(0x80010000, 0, 0, 0, 0);
        y.end(2);
        Due.is("byte 128", -1, y.meet());
    }

    private static void end() {
        Due.sentence("end(): The tape has its first n bytes alone: true; false, if it has not so many, or n is below 0");
        LendTown x = new LendTown();
        Due.feed(x, "law life;law life;xx");
        for (int n : new int[] {21, -1, Integer.MAX_VALUE, Integer.MIN_VALUE}) {
            Due.no("end(" + n + ")", x.end(n));
            Due.is("count(4) behind end(" + n + ")", 20, x.count(4));
        }
        Due.yes("end(20)", x.end(20));
        Due.is("count(4)", 20, x.count(4));
        Due.yes("end(9)", x.end(9));
        Due.is("count(4)", 9, x.count(4));
        Due.no("end(10)", x.end(10));
        Due.is("the first 9 alone", 1, x.town());
        Due.yes("end(0) of an empty tape", x.end(0));
        Due.no("end(1) of an empty tape", x.end(1));
        for (int n : new int[] {-1, 5, Integer.MAX_VALUE, Integer.MIN_VALUE}) {
            Look.unchanged("end(" + n + ")", y -> !y.end(n));
        }
    }

    private static void tapeEmptied() {
        Due.sentence("The tape (empty then, here and below, whatever is answered)");
        String[] texts = {"", "x", "law life;", "d;", "\0\1", "\0\0", "\0"};
        for (String text : texts) {
            for (int call = 0; call < 6; call++) {
                LendTown x = Due.townOf(Texts.AB + "deal d a b 5 1 1;");
                Due.feed(x, text);
                byTape(x, call);
                Due.is("count(4) behind call " + call, 0, x.count(4));
            }
        }
        Due.sentence("what is read of the tape leaves the rest");
        for (int call = 2; call < 6; call++) {
            LendTown x = Due.townOf(Texts.AB + "deal d a b 5 1 1;");
            x.does(0, 0);
            Due.feed(x, "\0\1");
            byTape(x, call);
            Due.is("done stays", 1, x.count(3));
            Due.is("persons stay", 2, x.count(0));
            Due.is("fault stays", 0, x.fault());
            LendTown busy = Look.busy();
            busy.end(3);
            String before = Look.at(busy).replaceFirst("count 3; fault", "count 0; fault");
            byTape(busy, call);
            Due.yes("not as told by call " + call + ": as before but for the tape", Look.at(busy).equals(before));
        }
    }

    private static void byTape(LendTown x, int call) {
        switch (call) {
            case 0 -> x.town();
            case 1 -> x.book();
            case 2 -> x.meet();
            case 3 -> x.must(0);
            case 4 -> x.must(2);
            default -> x.wrongly();
        }
    }

    private static void townReplaces() {
        Due.sentence("A new TOWN has an empty BOOK");
        LendTown x = Look.busy();
        x.end(0);
        Due.is("done", 2, x.count(3));
        Due.is("rests", 0, x.rests(-1));
        Due.is("town()", 3, Due.town(x, Texts.AB + "deal d a b 5 1 1;"));
        Due.is("done", 0, x.count(3));
        Due.is("d", 0, x.deal(0, 6));
        Due.is("undo", -1, x.undo());
        Due.is("had", 0, x.had(0));
        Due.sentence("town(): The tape is the TOWN now");
        int[] counts = {2, 1, 0, 0, 0};
        for (int what = 0; what < counts.length; what++) {
            Due.is("count(" + what + ")", counts[what], x.count(what));
        }
        Due.is("told", 0, x.told());
        Due.is("limit", 9, x.person(0, 2));
        Due.is("limit", 9, x.person(1, 2));
        Due.is("dies", 59, x.person(1, 1));
        Due.is("gain", 2, x.gain(1));
        Due.is("rests", 2, x.rests(-1));
        Due.is("lawful", 2, x.lawful());
        Due.is("no third person", -1, x.had(2));
        Due.is("a DEAL of the older TOWN is not told", -2, Due.book(x, "e;"));
        Due.is("town()", 2, Due.town(x, "person z 0 5;person y 0 5;"));
        int[] third = {2, 0, 0, 0, 0};
        for (int what = 0; what < third.length; what++) {
            Due.is("third count(" + what + ")", third[what], x.count(what));
        }
        Due.is("told", 0, x.told());
        Due.is("limit", 9, x.person(1, 2));
        Due.is("gain", 0, x.gain(1));
        Due.is("rests", 4, x.rests(-1));
        Due.is("lawful", 0, x.lawful());
        Due.is("a DEAL of the oldest TOWN is not told", -2, Due.book(x, "d;"));
    }

    private static void townStays() {
        Due.sentence("town(): -1 less the place of a FAULT: the TOWN stays");
        String[] faulty = {".", "person a 0 5;person b 0 5;limit a 1;law life;part a lends;deal d a b 5 3 4;x",
            "person z 0 60;", "law law;"};
        for (String text : faulty) {
            LendTown x = Look.busy();
            x.end(0);
            int lawful = x.lawful();
            int rests = x.rests(-1);
            int gain = x.gain(5);
            String before = Look.at(x);
            Due.feed(x, text);
            Due.yes("town of '" + text + "'", x.town() < 0);
            int kind = x.fault();
            Due.yes("all but the fault is as before", Look.at(x).replace("fault " + kind, "fault 2").equals(before));
            Due.is("lawful", lawful, x.lawful());
            Due.is("rests", rests, x.rests(-1));
            Due.is("gain", gain, x.gain(5));
            Due.is("its NAMES are known", -1, Due.book(x, "d;"));
        }
    }

    private static boolean noPerson(LendTown x, int p, int what) {
        try {
            x.person(p, what);
        } catch (NoSuchElementException e) {
            return true;
        }
        return false;
    }

    private static boolean noDeal(LendTown x, int d, int what) {
        try {
            x.deal(d, what);
        } catch (NoSuchElementException e) {
            return true;
        }
        return false;
    }

    private static void personNone() {
        Due.sentence("person(): NoSuchElementException: no such ones; a call that throws changes nothing");
        LendTown x = Look.busy();
        int[][] people = {{0, 59, 8, 1}, {1, 58, 3, 0}, {2, 57, 9, 1}};
        for (int p = 0; p < 3; p++) {
            for (int what = 0; what < 4; what++) {
                Due.is("person(" + p + ", " + what + ")", people[p][what], x.person(p, what));
            }
        }
        for (int none : NONE_SUCH) {
            Look.unchanged("person(" + none + ", 0)", y -> noPerson(y, none, 0));
            Look.unchanged("person(0, " + none + ")", y -> noPerson(y, 0, none));
        }
        Look.unchanged("person(3, 0)", y -> noPerson(y, 3, 0));
        Look.unchanged("person(2, 4)", y -> noPerson(y, 2, 4));
        LendTown most = Due.townOf(Texts.persons(10));
        Due.no("person(9, 3) throws", noPerson(most, 9, 3));
        Due.yes("person(10, 3) throws", noPerson(most, 10, 3));
        Due.yes("person(0, 0) of nobody throws", noPerson(new LendTown(), 0, 0));
    }

    private static void dealNone() {
        Due.sentence("deal(): NoSuchElementException: no such ones; a call that throws changes nothing");
        LendTown x = Look.busy();
        int[][] deals = {{0, 2, 5, 9, 0, 1, 1}, {1, 0, 5, 8, 0, 1, 0}, {2, 1, 6, 7, 0, 1, 2}};
        for (int d = 0; d < 3; d++) {
            for (int what = 0; what < 7; what++) {
                Due.is("deal(" + d + ", " + what + ")", deals[d][what], x.deal(d, what));
            }
        }
        for (int none : NONE_SUCH) {
            Look.unchanged("deal(" + none + ", 0)", y -> noDeal(y, none, 0));
            Look.unchanged("deal(0, " + none + ")", y -> noDeal(y, 0, none));
        }
        Look.unchanged("deal(3, 0)", y -> noDeal(y, 3, 0));
        Look.unchanged("deal(2, 7)", y -> noDeal(y, 2, 7));
        LendTown most = Due.townOf(Texts.AB + Texts.deals(30, 5));
        Due.no("deal(29, 6) throws", noDeal(most, 29, 6));
        Due.yes("deal(30, 6) throws", noDeal(most, 30, 6));
        Due.yes("deal(0, 0) of none throws", noDeal(new LendTown(), 0, 0));
    }

    private static void does() {
        Due.sentence("does(): 0, or why it is WRONG (1 to 6); NONE: no such ones");
        for (int none : NONE_SUCH) {
            Look.unchanged("does(" + none + ", 0)", y -> y.does(none, 0) == -1);
            Look.unchanged("does(0, " + none + ")", y -> y.does(0, none) == -1);
        }
        Look.unchanged("does(3, 0)", y -> y.does(3, 0) == -1);
        Look.unchanged("does(3, 1)", y -> y.does(3, 1) == -1);
        Look.unchanged("does(1, 2)", y -> y.does(1, 2) == -1);
        Look.unchanged("does(1, -1)", y -> y.does(1, -1) == -1);
        Look.unchanged("does(0, 0), WRONG", Look.busy(), y -> y.does(0, 0) == 1);
        Look.unchanged("does(1, 0), WRONG", Look.busy(), y -> y.does(1, 0) == 3);
        LendTown last = Due.townOf(Texts.AB + Texts.deals(30, 5));
        Due.is("the last DEAL", 0, last.does(29, 0));
        Due.is("one more", -1, last.does(30, 0));
        LendTown all = Due.townOf(Texts.persons(6) + deals30());
        for (int d = 0; d < 30; d++) {
            Due.is("DEAL " + d + " of 30", 0, all.does(d, 0));
        }
        Due.is("all are done", 30, all.count(3));
        Due.is("the last again", 1, all.does(29, 0));
        Due.is("undo", 29, all.undo());
    }

    private static String deals30() {
        StringBuilder text = new StringBuilder();
        for (int i = 0; i < 30; i++) {
            text.append("deal x").append((char) ('a' + i % 26)).append((char) ('a' + i / 26)).append(" a b " + i + " 1 1;");
        }
        return text.toString();
    }

    private static void undo() {
        Due.sentence("undo(): The latest DEAL done is not: how many are; NONE: there is none");
        LendTown x = Due.townOf(Texts.ABC + "deal d a b 5 1 1;deal e a c 5 1 1;");
        Look.unchanged("undo() with none done", x, y -> y.undo() == -1);
        x.does(1, 0);
        x.does(0, 0);
        Due.is("undo of two", 1, x.undo());
        Due.is("d was the latest", 0, x.deal(0, 6));
        Due.is("e stays", 1, x.deal(1, 6));
        Due.is("b is nothing", 0, x.is(1, 5));
        Due.is("a is a lender still", 1, x.is(0, 5));
        Due.is("undo of one", 0, x.undo());
        Due.is("a is nothing", 0, x.is(0, 5));
        Look.unchanged("undo() of none", x, y -> y.undo() == -1);
        Due.is("e may be done again", 0, x.does(1, 0));
    }

    private static void refusedByPersonAndYear() {
        Due.sentence("is(), had(), between(): NONE: no such ones");
        for (int none : NONE_SUCH) {
            Look.unchanged("is(" + none + ", 5)", y -> y.is(none, 5) == -1);
            Look.unchanged("is(0, " + none + ")", y -> y.is(0, none) == -1);
            Look.unchanged("had(" + none + ")", y -> y.had(none) == -1);
            Look.unchanged("between(" + none + ")", y -> y.between(none) == -1);
        }
        Look.unchanged("is(3, 5)", y -> y.is(3, 5) == -1);
        Look.unchanged("is(0, 60)", y -> y.is(0, 60) == -1);
        Look.unchanged("had(3)", y -> y.had(3) == -1);
        Look.unchanged("between(60)", y -> y.between(60) == -1);
        LendTown x = Look.busy();
        Due.is("had(2)", 7, x.had(2));
        Due.is("is(2, 59)", 0, x.is(2, 59));
        Due.is("is(2, 6)", 2, x.is(2, 6));
        Due.is("between(59)", 0, x.between(59));
        Due.is("between(0) of nobody", 0, new LendTown().between(0));
        Due.is("between(59) of nobody", 0, new LendTown().between(59));
    }

    private static void refusedByParts() {
        Due.sentence("gain(), goes(), climb(), rounds(): NONE: no such PARTS");
        for (int none : NONE_SUCH) {
            Look.unchanged("gain(" + none + ")", y -> y.gain(none) == -1);
            Look.unchanged("goes(" + none + ")", y -> y.goes(none) == -1);
            Look.unchanged("climb(" + none + ")", y -> y.climb(none) == -1);
            Look.unchanged("rounds(" + none + ")", y -> y.rounds(none) == -1);
        }
        Look.unchanged("gain(8)", y -> y.gain(8) == -1);
        Look.unchanged("goes(8)", y -> y.goes(8) == -1);
        Look.unchanged("climb(8)", y -> y.climb(8) == -1);
        Look.unchanged("rounds(8)", y -> y.rounds(8) == -1);
    }

    private static void refusedByPersonAndParts() {
        Due.sentence("price(), loss(), own(), one(), oneBy(): NONE, too: no such one");
        int[][] none = {{-1, 0}, {3, 0}, {10, 0}, {0, -1}, {0, 8}, {0, 1024}, {Integer.MIN_VALUE, 0}, {0, Integer.MAX_VALUE}};
        for (int[] at : none) {
            int p = at[0];
            int parts = at[1];
            String with = "(" + p + ", " + parts + ")";
            Look.unchanged("price" + with, y -> y.price(p, parts) == -1);
            Look.unchanged("loss" + with, y -> y.loss(p, parts) == -1);
            Look.unchanged("own" + with, y -> y.own(p, parts) == -1);
            Look.unchanged("one" + with, y -> y.one(p, parts) == -1);
            Look.unchanged("oneBy" + with, y -> y.oneBy(p, parts, 1) == -1);
        }
        Look.unchanged("oneBy(0, 0, -1)", y -> y.oneBy(0, 0, -1) == -1);
        Look.unchanged("oneBy(0, 0, 61)", y -> y.oneBy(0, 0, 61) == -1);
    }

    private static void refusedOthers() {
        Due.sentence("may(), rests(), ended(), lawfulBy(), oneIs(), count(), image(): another one, none such");
        for (int none : NONE_SUCH) {
            Look.unchanged("may(" + none + ")", y -> y.may(none) == -1);
            Look.unchanged("ended(" + none + ")", y -> y.ended(none) == -1);
            Look.unchanged("lawfulBy(" + none + ")", y -> y.lawfulBy(none) == -1);
            Look.unchanged("oneIs(" + none + ")", y -> y.oneIs(none) == -1);
            Look.unchanged("count(" + none + ")", y -> y.count(none) == -1);
            Look.unchanged("image(" + none + ")", y -> !y.image(none));
            Look.unchanged("restore(" + none + ")", y -> !y.restore(none));
            if (none != -1) {
                Look.unchanged("rests(" + none + ")", y -> y.rests(none) == -1);
            }
        }
        Look.unchanged("may(2)", y -> y.may(2) == -1);
        Look.unchanged("ended(2)", y -> y.ended(2) == -1);
        Look.unchanged("lawfulBy(3)", y -> y.lawfulBy(3) == -1);
        Look.unchanged("oneIs(60)", y -> y.oneIs(60) == -1);
        Look.unchanged("count(5)", y -> y.count(5) == -1);
        Look.unchanged("image(2)", y -> !y.image(2));
        Look.unchanged("restore(0), nothing kept", y -> !y.restore(0));
        Look.unchanged("restore(1), nothing kept", y -> !y.restore(1));
        Look.unchanged("restore(2)", y -> !y.restore(2));
        LendTown many = Due.townOf(Texts.AB + Texts.deals(13, 5));
        Look.unchanged("lawful() of 13 DEALS", many, y -> y.lawful() == -1);
    }

    private static void may() {
        Due.sentence("may(): DEALS that are not WRONG next, turned (1) or as told (0), as bits; NONE: another one");
        LendTown x = Due.townOf(Texts.AB + "limit a 1;deal d a b 5 1 1;deal e a b 5 1 1 either;deal f a b 6 1 1 either;deal g b a 4 1 1 either;");
        Due.is("may(0)", 15, x.may(0));
        Due.is("may(1)", 14, x.may(1));
        Due.is("may(2)", -1, x.may(2));
        Due.is("may(-1)", -1, x.may(-1));
        x.does(0, 0);
        Due.is("d is done, e 6, g 3", 4, x.may(0));
        Due.is("f turned 4", 0, x.may(1));
        LendTown all = Due.townOf(Texts.AB + Texts.deals(30, 5));
        Due.is("all 30", (1 << 30) - 1, all.may(0));
        Due.is("none turned", 0, all.may(1));
    }

    private static void had() {
        Due.sentence("had(): What PERSON p has of all DEALS done");
        LendTown x = Due.townOf(Texts.ABC + "deal d a b 5 99 0;deal e a c 6 99 99 either;deal f a b 7 1 2;");
        Due.is("none done", 0, x.had(0));
        x.does(0, 0);
        x.does(1, 0);
        Due.is("a", 198, x.had(0));
        Due.is("b", 0, x.had(1));
        Due.is("c", 99, x.had(2));
        Due.is("no fourth", -1, x.had(3));
        Due.is("none ahead", -1, x.had(-1));
    }

    private static void told() {
        Due.sentence("told(): PARTS told");
        Due.is("nobody", 0, new LendTown().told());
        Due.is("without", 0, Due.townOf(Texts.AB).told());
        Due.is("one borrows", 0, Due.townOf(Texts.AB + "part a borrows;").told());
        Due.is("the last of ten", 512, Due.townOf(Texts.persons(10) + "part j lends;").told());
    }

    private static LendTown met(int persons, int... pairs) {
        LendTown x = Due.townOf(Texts.persons(persons));
        Due.feed(x, Due.pairs(pairs));
        return x;
    }

    /** Pairs of 0 and 1, each the other way round. */
    private static int[] pairs(int many) {
        int[] all = new int[2 * many];
        for (int i = 0; i < many; i++) {
            all[2 * i] = i % 2;
            all[2 * i + 1] = 1 - i % 2;
        }
        return all;
    }

    private static void meetNotAsTold() {
        Due.sentence("MEETINGS: pairs of PERSONS, told as bytes two by two (20 pairs at most); NONE: not as told");
        Due.is("the last person", 2, met(3, 0, 2).meet());
        Due.is("no fourth person", -1, met(3, 0, 3).meet());
        Due.is("no fourth person, first", -1, met(3, 3, 0).meet());
        Due.is("person 9 of ten", 2, met(10, 9, 0).meet());
        Due.is("person 10 of ten", -1, met(10, 10, 0).meet());
        Due.is("byte 127", -1, met(10, 0, 127).meet());
        Due.is("byte 128", -1, met(10, 0, 128).meet());
        Due.is("byte 255", -1, met(10, 255, 0).meet());
        Due.is("one with himself", -1, met(3, 2, 2).meet());
        Due.is("one with himself, later", -1, met(3, 0, 1, 1, 1).meet());
        Due.is("one byte", -1, met(3, 0).meet());
        Due.is("three bytes", -1, met(3, 0, 1, 2).meet());
        Due.is("two by two", 2, met(3, 0, 1, 2, 1).meet());
        Due.is("19 pairs", 2, met(3, pairs(19)).meet());
        Due.is("20 pairs", 2, met(3, pairs(20)).meet());
        Due.is("21 pairs", -1, met(3, pairs(21)).meet());
        LendTown odd = met(3, pairs(20));
        Due.feed(odd, "\0");
        Due.is("20 pairs and a byte", -1, odd.meet());
        Due.is("nobody is a PERSON", -1, met(0, 0, 1).meet());
    }

    private static void meetCanBe() {
        Due.sentence("meet(): MEETINGS can BE: in how many PARTS of those who met; 0: they can't");
        LendTown often = met(4, 0, 1, 1, 2, 2, 0);
        Due.is("they can't", 0, often.meet());
        Due.feed(often, "\1\3\0\2");
        Due.is("those of now alone", 4, often.meet());
        Due.feed(often, "\1\3\0");
        Due.is("not as told", -1, often.meet());
        Due.is("nobody met", 1, often.meet());
        Due.is("one met two", 2, met(3, 0, 1, 0, 2).meet());
        Due.is("two met one", 2, met(3, 1, 0, 2, 0).meet());
        Due.is("nobody met", 1, met(3).meet());
        Due.is("nobody at all", 1, met(0).meet());
        Due.is("others count nothing", 2, met(10, 0, 1).meet());
        Due.is("five groups", 32, met(10, 0, 1, 2, 3, 4, 5, 6, 7, 8, 9).meet());
        Due.is("one group", 2, met(10, 0, 1, 1, 2, 2, 3, 3, 4, 4, 5, 5, 6, 6, 7, 7, 8, 8, 9).meet());
        Due.is("three round", 0, met(10, 0, 1, 1, 2, 2, 0).meet());
        Due.is("four round", 2, met(10, 0, 1, 1, 2, 2, 3, 3, 0).meet());
        Due.is("nine round", 0, met(10, 0, 1, 1, 2, 2, 3, 3, 4, 4, 5, 5, 6, 6, 7, 7, 8, 8, 0).meet());
        Due.is("ten round", 2, met(10, 0, 1, 1, 2, 2, 3, 3, 4, 4, 5, 5, 6, 6, 7, 7, 8, 8, 9, 9, 0).meet());
        Due.is("a later group can't", 0, met(10, 0, 1, 7, 8, 8, 9, 9, 7).meet());
    }

    private static void must() {
        Due.sentence("must(): PERSONS who lend (what 0), who borrow (1) in all PARTS in which the least PERSON who met lends, as bits");
        Due.is("least 0", 1, met(3, 1, 0).must(0));
        Due.is("least 0, borrows", 2, met(3, 1, 0).must(1));
        Due.is("least 1", 2, met(3, 2, 1).must(0));
        Due.is("least 8", 256, met(10, 9, 8).must(0));
        Due.is("least 8, borrows", 512, met(10, 9, 8).must(1));
        Due.is("another group must not", 1, met(4, 2, 3, 1, 0).must(0));
        Due.is("another group must not, borrow", 2, met(4, 2, 3, 1, 0).must(1));
        Due.is("a chain", 0b0101, met(4, 0, 1, 1, 2, 2, 3).must(0));
        Due.is("a chain, borrow", 0b1010, met(4, 0, 1, 1, 2, 2, 3).must(1));
        Due.is("one met two", 6, met(3, 0, 1, 0, 2).must(1));
        Due.is("two met one", 6, met(3, 1, 0, 2, 0).must(1));
        Due.is("20 pairs", 1, met(3, pairs(20)).must(0));
    }

    private static void mustNone() {
        Due.sentence("must(): NONE: they can't, nobody met, not as told, another what");
        for (int what = 0; what < 2; what++) {
            Due.is("they can't", -1, met(3, 0, 1, 1, 2, 2, 0).must(what));
            Due.is("another group can't", -1, met(6, 0, 1, 3, 4, 4, 5, 5, 3).must(what));
            Due.is("nobody met", -1, met(3).must(what));
            Due.is("one byte", -1, met(3, 0).must(what));
            Due.is("no such person", -1, met(3, 0, 3).must(what));
            Due.is("himself", -1, met(3, 1, 1).must(what));
            Due.is("21 pairs", -1, met(3, pairs(21)).must(what));
        }
        for (int none : new int[] {-1, 2, Integer.MIN_VALUE, Integer.MAX_VALUE}) {
            LendTown x = met(3, 0, 1);
            Due.is("must(" + none + ")", -1, x.must(none));
            Due.is("the tape is empty", 0, x.count(4));
            Due.is("nobody met now", 1, x.meet());
        }
    }

    private static void wrongly() {
        Due.sentence("FALSE: the fewest of them that are left out so that the others can BE; of like ones the least set as bits");
        Due.is("nobody met", 0, met(3).wrongly());
        Due.is("they can BE", 0, met(4, 0, 1, 1, 2, 2, 3, 3, 0).wrongly());
        Due.is("like ones: the first pair", 1, met(3, 0, 1, 1, 2, 2, 0).wrongly());
        Due.is("one ahead of two", 4, met(3, 0, 1, 0, 1, 1, 2, 2, 0, 2, 0).wrongly());
        Due.is("two of four persons", 0b001100, met(4, 0, 1, 0, 2, 0, 3, 1, 2, 1, 3, 2, 3).wrongly());
        Due.is("two rounds", 1 | 8, met(6, 0, 1, 1, 2, 2, 0, 3, 4, 4, 5, 5, 3).wrongly());
        LendTown often = met(3, 0, 1, 1, 2, 2, 0);
        Due.is("three round", 1, often.wrongly());
        Due.feed(often, "\0\2");
        Due.is("those of now alone", 0, often.wrongly());
        int[] sixteen = new int[32];
        System.arraycopy(pairs(14), 0, sixteen, 0, 28);
        System.arraycopy(new int[] {1, 2, 2, 0}, 0, sixteen, 28, 4);
        Due.is("the last but one of 16", 1 << 14, met(3, sixteen).wrongly());
    }

    private static void wronglyNone() {
        Due.sentence("FALSE: (16 pairs at most); wrongly(): NONE: not as told, or more than 16 pairs");
        Due.is("15 pairs", 0, met(3, pairs(15)).wrongly());
        Due.is("16 pairs", 0, met(3, pairs(16)).wrongly());
        for (int many : new int[] {17, 20, 21}) {
            LendTown x = met(3, pairs(many));
            Due.is(many + " pairs", -1, x.wrongly());
            Due.is("the tape is empty", 0, x.count(4));
        }
        Due.is("one byte", -1, met(3, 0).wrongly());
        Due.is("no such person", -1, met(3, 0, 3).wrongly());
        Due.is("himself", -1, met(3, 1, 1).wrongly());
        Due.is("byte 255", -1, met(3, 255, 1).wrongly());
    }

    private static void runNone() {
        Due.sentence("run(): how many DEALS are done; NONE: no DEALS");
        for (int seed : new int[] {0, 1, -1, Integer.MIN_VALUE, Integer.MAX_VALUE}) {
            Look.unchanged("run(" + seed + ") without DEALS", new LendTown(), y -> y.run(seed) == -1);
            Look.unchanged("run(" + seed + ") with PERSONS", Due.townOf(Texts.ABC), y -> y.run(seed) == -1);
        }
        LendTown one = Due.townOf(Texts.AB + "deal d a b 5 1 1;");
        Due.is("one DEAL, draw 0", 0, one.run(0));
        Due.is("one DEAL, draw 2", 1, one.run(1));
    }

    private static void refused() {
        Due.sentence("refused(): How many came and were WRONG in the latest run() that was not NONE; NONE ahead of any");
        LendTown x = new LendTown();
        Due.is("ahead of any", -1, x.refused());
        Due.is("run", -1, x.run(1));
        Due.is("ahead of any that was not NONE", -1, x.refused());
        Due.town(x, Texts.AB + "limit a 0;deal d a b 5 1 1;");
        Due.is("run", 0, x.run(1));
        Due.is("one came", 1, x.refused());
        Due.is("does, WRONG, is no run", 6, x.does(0, 0));
        Due.is("refused", 1, x.refused());
        Due.town(x, Texts.AB);
        Due.is("run without DEALS", -1, x.run(1));
        Due.is("the latest that was not NONE", 1, x.refused());
        Due.town(x, Texts.AB + "limit a 0;deal d a b 5 1 1;");
        Due.is("run", 0, x.run(0));
        Due.is("none came", 0, x.refused());
    }

    private static void images() {
        Due.sentence("image(): TOWN and DEALS done are kept in place k (0, 1): true; false: no such one");
        for (int k = 0; k < 2; k++) {
            LendTown x = Look.busy();
            Due.no("nothing kept", x.restore(k));
            Due.yes("image", x.image(k));
            Due.no("in the other one nothing is", x.restore(1 - k));
            x.end(0);
            String before = Look.at(x);
            Due.is("another TOWN", 1, Due.town(x, "person z 4 5;"));
            Due.yes("restore", x.restore(k));
            Due.yes("as kept, but for the fault", Look.at(x).equals(before.replace("fault 2", "fault 0")));
            Due.is("f was the last one", 1, x.undo());
            Due.yes("restore", x.restore(k));
            Due.is("done", 2, x.count(3));
        }
        LendTown none = new LendTown();
        Due.no("image(2)", none.image(2));
        Due.no("image(-1)", none.image(-1));
        Due.no("none is kept in 0", none.restore(0));
        Due.no("none is kept in 1", none.restore(1));
        Due.yes("an empty TOWN is kept", none.image(0));
        Due.town(none, Texts.AB);
        Due.yes("restore", none.restore(0));
        Due.is("nobody", 0, none.count(0));
        Due.is("PARTS of nobody", -1, none.gain(1));
    }

    private static void imagesAreApart() {
        Due.sentence("image(): places 0 and 1 are two, and keep what was");
        LendTown x = Due.townOf(Texts.AB + "law years 1;deal d a b 5 1 1;deal e b a 6 1 1;");
        x.image(0);
        x.does(0, 0);
        x.image(1);
        x.does(1, 0);
        Due.yes("restore(0)", x.restore(0));
        Due.is("none done", 0, x.count(3));
        Due.is("e alone", 0, x.does(1, 0));
        Due.yes("restore(1)", x.restore(1));
        Due.is("d done", 1, x.deal(0, 6));
        Due.is("e not", 0, x.deal(1, 6));
        Due.yes("restore(0) again", x.restore(0));
        Due.is("none done", 0, x.count(3));
        Due.is("restored it may be told anew", 1, Due.town(x, "person z 4 5;"));
        Due.yes("image(0) once more", x.image(0));
        Due.yes("restore(1)", x.restore(1));
        Due.is("two persons", 2, x.count(0));
        Due.yes("restore(0)", x.restore(0));
        Due.is("one person", 1, x.count(0));
        Due.is("gain", 0, x.gain(1));
        Due.is("rests", 2, x.rests(-1));
        Due.is("lawful", 0, x.lawful());
        Due.yes("restore(1)", x.restore(1));
        Due.is("gain", 2, x.gain(1));
        Due.is("rests", 2, x.rests(-1));
        Due.is("lawful", 4, x.lawful());
    }

    private static void imagesOfWhatIsReckoned() {
        Due.sentence("restore(): They are as kept in place k: PERSONS, DEALS, law, gains, DEALS done and their order");
        String one = Texts.ABC + "law years 3;deal d a b 5 0 5;deal e b a 8 1 1 either;deal f a c 8 9 9;";
        String other = Texts.ABC + "limit a 1;part b lends;deal f b a 3 2 2;deal g b a 4 1 1 either;deal h c a 7 0 0;";
        for (int reckoned = 0; reckoned < 2; reckoned++) {
            LendTown x = Due.townOf(one);
            if (reckoned == 1) {
                reckonsOne(x);
            }
            Due.is("done", -1, Due.book(x, "d;e turned;"));
            Due.yes("image", x.image(0));
            Due.town(x, other);
            Due.is("lawful", 6, x.lawful());
            Due.is("rests", 4, x.rests(-1));
            Due.is("gain", 6, x.gain(2));
            Due.is("f", 0, x.does(0, 0));
            Due.is("h", 0, x.does(2, 0));
            Due.yes("image", x.image(1));
            Due.yes("restore", x.restore(0));
            reckonsOne(x);
            doneInOne(x);
            Due.yes("restore", x.restore(1));
            Due.is("rests", 4, x.rests(-1));
            Due.is("a NAME of the other TOWN", -1, Due.book(x, "h;"));
            Due.yes("restore", x.restore(0));
            reckonsOne(x);
            Due.is("a NAME of this TOWN", -1, Due.book(x, "e turned;"));
        }
    }

    private static void reckonsOne(LendTown x) {
        Due.is("lawful", 25, x.lawful());
        Due.is("lawfulBy(1)", 2, x.lawfulBy(1));
        Due.is("rests", 2, x.rests(-1));
        Due.is("the first", 1, x.rests(0));
        Due.is("the second", 6, x.rests(1));
        Due.is("gain", 25, x.gain(1));
        Due.is("best", 25, x.best());
    }

    private static void doneInOne(LendTown x) {
        int[][] is = {{1, 1}, {2, 2}, {0, 0}};
        for (int p = 0; p < is.length; p++) {
            Due.is("is(" + p + ", 5)", is[p][0], x.is(p, 5));
            Due.is("is(" + p + ", 10)", is[p][1], x.is(p, 10));
            Due.is("is(" + p + ", 11)", 0, x.is(p, 11));
        }
        Due.is("d", 1, x.deal(0, 6));
        Due.is("e", 2, x.deal(1, 6));
        Due.is("f", 0, x.deal(2, 6));
        Due.is("had", 6, x.had(1));
    }

    private static void restoreLeaves() {
        Due.sentence("restore(): the tape, and what other calls told last, stays");
        LendTown x = Look.busy();
        x.image(0);
        Due.yes("restore", x.restore(0));
        Due.is("tape", 4, x.count(4));
        Due.is("fault", 2, x.fault());
        LendTown y = Due.townOf(Texts.AB + "deal d a b 5 1 1;");
        y.image(1);
        Due.is("book, WRONG", 1, Due.book(y, "d;d;"));
        y.climb(0);
        y.rounds(3);
        y.one(0, 0);
        y.lawful();
        y.run(1);
        Due.feed(y, "abc");
        Due.yes("restore", y.restore(1));
        Due.is("tape", 3, y.count(4));
        Due.is("why", 1, y.why());
        Due.is("climbed", 1, y.climbed());
        Due.is("ended", 1, y.ended(0));
        Due.is("oneIs", 1, y.oneIs(5));
        Due.is("lawfulBy", 1, y.lawfulBy(0));
        Due.is("refused", 0, y.refused());
        Due.is("done", 0, y.count(3));
    }

    private static void restoreNone() {
        Due.sentence("restore(): true; false: no such one, or nothing is kept there");
        LendTown x = Look.busy();
        x.image(0);
        x.undo();
        for (int none : new int[] {1, 2, -1, Integer.MIN_VALUE, Integer.MAX_VALUE}) {
            String before = Look.at(x);
            Due.no("restore(" + none + ")", x.restore(none));
            Due.yes("it is as it was", Look.at(x).equals(before));
        }
        Due.yes("restore(0)", x.restore(0));
        Due.is("done", 2, x.count(3));
        Due.no("image(2) keeps nothing", x.image(2));
        Due.no("not in 1", x.restore(1));
    }

    private static void counts() {
        Due.sentence("count(): 0 PERSONS, 1 DEALS, 2 N of the law (0: life), 3 DEALS done, 4 bytes of the tape. NONE for another what");
        LendTown x = Look.busy();
        int[] want = {3, 3, 2, 2, 4, -1};
        for (int what = 0; what < want.length; what++) {
            Due.is("count(" + what + ")", want[what], x.count(what));
        }
        Due.is("count(-1)", -1, x.count(-1));
        Due.is("life", 0, Due.townOf("law life;").count(2));
        Due.is("years 60", 60, Due.townOf("law years 60;").count(2));
    }

    private static void readersChangeNothing() {
        Due.sentence("the state changes described are the only ones");
        LendTown x = Look.busy();
        String before = Look.at(x);
        x.best();
        x.bestParts();
        x.above(3);
        x.price(1, 1);
        x.loss(1, 1);
        x.own(1, 1);
        x.rests(-1);
        x.oneBy(1, 1, 0);
        x.fewest();
        x.between(5);
        x.may(0);
        x.goes(1);
        x.image(0);
        Due.yes("as before: " + before, Look.at(x).equals(before));
    }
}
