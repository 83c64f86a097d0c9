import java.util.Arrays;
import java.util.NoSuchElementException;

/**
 * A town in which each is by his first deal a lender or a borrower, for life or for some years.
 * All rows are made in the constructor and used again: a call makes no object.
 */
public final class LendTown {
    public static final int NONE = -1;

    private static final int YEARS = 60;
    private static final int MOST_PERSONS = 10;
    private static final int MOST_DEALS = 30;
    private static final int MOST_PARTS = 1 << MOST_PERSONS;
    private static final int MOST_LAWFUL = 12;

    private static final int NOTHING = 0;
    private static final int LENDER = 1;
    private static final int BORROWER = 2;

    private static final int NOT_DONE = 0;
    private static final int AS_TOLD = 1;
    private static final int TURNED = 2;

    private final Tape tape;
    private final Reader reader;
    private final Flow flow;
    private final Rounds ring;
    private final Choice choice;
    private final LawfulSearch search;
    private final Meetings meetings;
    private final State now;
    private final State firstImage;
    private final State secondImage;
    private Town spare;
    private int whyWrong;
    private int changes;
    private int refusals;

    public LendTown() {
        tape = new Tape();
        reader = new Reader(tape);
        flow = new Flow();
        ring = new Rounds();
        choice = new Choice();
        search = new LawfulSearch();
        meetings = new Meetings();
        now = new State();
        firstImage = new State();
        secondImage = new State();
        spare = new Town();
        whyWrong = 0;
        changes = 0;
        refusals = NONE;
    }

    public int feed(int a, int b, int c, int d, int e) {
        if (!tape.hasRoomFor(20)) {
            return NONE;
        }
        tape.addNumber(a);
        tape.addNumber(b);
        tape.addNumber(c);
        tape.addNumber(d);
        tape.addNumber(e);
        return tape.size;
    }

    public boolean end(int n) {
        if (n < 0 || n > tape.size) {
            return false;
        }
        tape.cut(n);
        return true;
    }

    public int town() {
        boolean read = reader.readTown(spare);
        tape.cut(0);
        if (!read) {
            return -1 - reader.place;
        }
        Town old = now.town;
        now.town = spare;
        spare = old;
        now.book.clear();
        return reader.lines;
    }

    public int fault() {
        return reader.kind;
    }

    public int person(int p, int what) throws NoSuchElementException {
        Town t = now.town;
        if (!t.hasPerson(p) || what < 0 || what > 3) {
            throw new NoSuchElementException("no such person, or nothing such of one");
        }
        switch (what) {
            case 0:
                return t.born[p];
            case 1:
                return t.dies[p];
            case 2:
                return t.limit[p];
            default:
                return (t.toldParts >> p) & 1;
        }
    }

    public int deal(int d, int what) throws NoSuchElementException {
        Town t = now.town;
        if (!t.hasDeal(d) || what < 0 || what > 6) {
            throw new NoSuchElementException("no such deal, or nothing such of one");
        }
        switch (what) {
            case 0:
                return t.lender[d];
            case 1:
                return t.borrower[d];
            case 2:
                return t.year[d];
            case 3:
                return t.lenderGain[d];
            case 4:
                return t.borrowerGain[d];
            case 5:
                return t.either[d];
            default:
                return now.book.wayDone(d);
        }
    }

    public int does(int d, int turned) {
        Town t = now.town;
        if (!t.hasDeal(d) || turned < 0 || turned > 1) {
            return NONE;
        }
        return now.book.tryDeal(t, d, turned == 1 ? TURNED : AS_TOLD);
    }

    public int undo() {
        if (now.book.size == 0) {
            return NONE;
        }
        now.book.dropLast();
        return now.book.size;
    }

    public int book() {
        whyWrong = 0;
        boolean read = reader.readBook(now.town);
        tape.cut(0);
        if (!read) {
            return -2 - reader.place;
        }
        now.book.clear();
        for (int line = 0; line < reader.lines; line++) {
            whyWrong = now.book.tryDeal(now.town, reader.bookDeals[line], reader.bookWays[line]);
            if (whyWrong != 0) {
                return line;
            }
        }
        return NONE;
    }

    public int why() {
        return whyWrong;
    }

    public int is(int p, int year) {
        if (!now.town.hasPerson(p) || !isYear(year)) {
            return NONE;
        }
        return now.book.whatIs(now.town, p, year);
    }

    public int may(int turned) {
        if (turned < 0 || turned > 1) {
            return NONE;
        }
        int way = turned == 1 ? TURNED : AS_TOLD;
        int bits = 0;
        for (int d = 0; d < now.town.deals; d++) {
            if (now.book.wrongOf(now.town, d, way) == 0) {
                bits |= 1 << d;
            }
        }
        return bits;
    }

    public int had(int p) {
        if (!now.town.hasPerson(p)) {
            return NONE;
        }
        return now.book.sharesOf(now.town, p);
    }

    public int gain(int parts) {
        if (!now.town.hasParts(parts)) {
            return NONE;
        }
        return flow.gainOf(now.town, parts);
    }

    public int best() {
        return flow.gainOf(now.town, partsOfMost());
    }

    public int bestParts() {
        return partsOfMost();
    }

    public int goes(int parts) {
        if (!now.town.hasParts(parts)) {
            return NONE;
        }
        int bits = 0;
        for (int d = 0; d < now.town.deals; d++) {
            if (now.town.goesBy(d, parts)) {
                bits |= 1 << d;
            }
        }
        return bits;
    }

    public int above(int v) {
        int many = 0;
        for (int parts = 0; parts < now.town.partsCount(); parts++) {
            if (flow.gainOf(now.town, parts) >= v) {
                many++;
            }
        }
        return many;
    }

    public int price(int p, int parts) {
        if (!now.town.hasPerson(p) || !now.town.hasParts(parts)) {
            return NONE;
        }
        int wider = flow.gainWithLimit(now.town, parts, p, now.town.limit[p] + 1);
        return wider - flow.gainOf(now.town, parts);
    }

    public int loss(int p, int parts) {
        if (!now.town.hasPerson(p) || !now.town.hasParts(parts)) {
            return NONE;
        }
        return flow.gainOf(now.town, parts) - flow.gainWithLimit(now.town, parts, p, 0);
    }

    public int climb(int parts) {
        if (!now.town.hasParts(parts)) {
            return NONE;
        }
        changes = 0;
        int here = parts;
        // GAIN grows with each change, so no PARTS come twice.
        for (int step = 0; step < MOST_PARTS; step++) {
            int next = firstBetter(here);
            if (next == here) {
                return here;
            }
            here = next;
            changes++;
        }
        return here;
    }

    public int climbed() {
        return changes;
    }

    public int told() {
        return now.town.toldParts;
    }

    public int own(int p, int parts) {
        if (!now.town.hasPerson(p) || !now.town.hasParts(parts)) {
            return NONE;
        }
        return now.town.ownOf(p, parts);
    }

    public int rests(int k) {
        Memo memo = now.town.memo;
        if (memo.restCount == NONE) {
            findRests(now.town, memo);
        }
        if (k == NONE) {
            return memo.restCount;
        }
        if (k < 0 || k >= memo.restCount || k >= MOST_PARTS) {
            return NONE;
        }
        return memo.rests[k];
    }

    public int rounds(int parts) {
        if (!now.town.hasParts(parts)) {
            return NONE;
        }
        return ring.follow(now.town, parts);
    }

    public int ended(int what) {
        if (!ring.known) {
            return NONE;
        }
        return what == 0 ? ring.lastParts : what == 1 ? ring.length : NONE;
    }

    public int one(int p, int parts) {
        if (!now.town.hasPerson(p) || !now.town.hasParts(parts)) {
            return NONE;
        }
        choice.reckon(now.town, p, parts, now.town.lawYears);
        choice.keepRow();
        return choice.most[0];
    }

    public int oneBy(int p, int parts, int n) {
        if (!now.town.hasPerson(p) || !now.town.hasParts(parts) || n < 0 || n > YEARS) {
            return NONE;
        }
        choice.reckon(now.town, p, parts, n);
        return choice.most[0];
    }

    public int lawful() {
        if (now.town.deals > MOST_LAWFUL) {
            return NONE;
        }
        return search.reckon(now.town);
    }

    public int lawfulBy(int d) {
        if (d < 0 || d >= search.toldDeals || d >= MOST_LAWFUL) {
            return NONE;
        }
        return search.toldWays[d];
    }

    public int oneIs(int year) {
        if (!choice.kept || !isYear(year)) {
            return NONE;
        }
        return choice.row[year];
    }

    public int fewest() {
        Town t = now.town;
        int dealing = t.personsWithDeals();
        int fewest = dealing;
        for (int lenders = 0; lenders < t.partsCount(); lenders++) {
            boolean fewer = Integer.bitCount(lenders) < Integer.bitCount(fewest);
            if (fewer && (lenders & ~dealing) == 0 && t.allServed(lenders, dealing)) {
                fewest = lenders;
            }
        }
        return fewest;
    }

    public int meet() {
        boolean read = meetings.take(tape, now.town.persons);
        tape.cut(0);
        return read ? meetings.waysToBe() : NONE;
    }

    public int must(int what) {
        boolean read = meetings.take(tape, now.town.persons);
        tape.cut(0);
        if (!read || what < 0 || what > 1) {
            return NONE;
        }
        return meetings.bound(what == 0);
    }

    public int wrongly() {
        boolean read = meetings.take(tape, now.town.persons);
        tape.cut(0);
        if (!read || meetings.pairs > Meetings.MOST_JUDGED) {
            return NONE;
        }
        return meetings.fewestFalse(now.town.partsCount());
    }

    public int between(int year) {
        if (!isYear(year)) {
            return NONE;
        }
        int bits = 0;
        for (int p = 0; p < now.town.persons; p++) {
            if (goesBetween(p, year)) {
                bits |= 1 << p;
            }
        }
        return bits;
    }

    public int run(int seed) {
        Town t = now.town;
        if (t.deals == 0) {
            return NONE;
        }
        now.book.clear();
        refusals = 0;
        int x = seed;
        for (int i = 0; i < t.deals; i++) {
            int d = t.byYear[i];
            x = x * 1103515245 + 12345;
            int draw = (x >>> 8) % 4;
            int way = draw == 1 && t.either[d] == 1 ? TURNED : AS_TOLD;
            if (draw != 0 && now.book.tryDeal(t, d, way) != 0) {
                refusals++;
            }
        }
        return now.book.size;
    }

    public int refused() {
        return refusals;
    }

    public boolean image(int k) {
        State place = imageAt(k);
        if (place == null) {
            return false;
        }
        place.copyFrom(now);
        place.kept = true;
        return true;
    }

    public boolean restore(int k) {
        State place = imageAt(k);
        if (place == null || !place.kept) {
            return false;
        }
        now.copyFrom(place);
        return true;
    }

    public int count(int what) {
        switch (what) {
            case 0:
                return now.town.persons;
            case 1:
                return now.town.deals;
            case 2:
                return now.town.lawYears;
            case 3:
                return now.book.size;
            case 4:
                return tape.size;
            default:
                return NONE;
        }
    }

    private static boolean isYear(int year) {
        return year >= 0 && year < YEARS;
    }

    private State imageAt(int k) {
        return k == 0 ? firstImage : k == 1 ? secondImage : null;
    }

    private int partsOfMost() {
        int most = 0;
        for (int parts = 1; parts < now.town.partsCount(); parts++) {
            if (flow.gainOf(now.town, parts) > flow.gainOf(now.town, most)) {
                most = parts;
            }
        }
        return most;
    }

    private int firstBetter(int parts) {
        int here = flow.gainOf(now.town, parts);
        for (int p = 0; p < now.town.persons; p++) {
            int changed = parts ^ (1 << p);
            if (flow.gainOf(now.town, changed) > here) {
                return changed;
            }
        }
        return parts;
    }

    private static void findRests(Town t, Memo memo) {
        memo.restCount = 0;
        for (int parts = 0; parts < t.partsCount(); parts++) {
            if (t.isAtRest(parts)) {
                memo.rests[memo.restCount] = parts;
                memo.restCount++;
            }
        }
    }

    private boolean goesBetween(int p, int year) {
        Town t = now.town;
        if (year < t.born[p] || year > t.dies[p] || now.book.whatIs(t, p, year) != NOTHING) {
            return false;
        }
        int lenders = 0;
        int borrowers = 0;
        for (int d = 0; d < t.deals; d++) {
            if (t.year[d] != year || !t.isIn(d, p) || now.book.wayDone(d) != NOT_DONE) {
                continue;
            }
            int other = t.otherIn(d, p);
            int otherIs = now.book.whatIs(t, other, year);
            boolean either = t.either[d] == 1;
            if ((t.borrower[d] == p || either) && otherIs != BORROWER) {
                lenders |= 1 << other;
            }
            if ((t.lender[d] == p || either) && otherIs != LENDER) {
                borrowers |= 1 << other;
            }
        }
        // Two different persons are needed: one alone on both sides is nobody to go between.
        return lenders != 0 && borrowers != 0 && Integer.bitCount(lenders | borrowers) > 1;
    }

    /** TOWN and DEALS done: what an image keeps. */
    private static final class State {
        Town town = new Town();
        final Book book = new Book();
        boolean kept = false;

        void copyFrom(State other) {
            town.copyFrom(other.town);
            book.copyFrom(other.book);
        }
    }

    /** The bytes fed, and the TOKENS along them. */
    private static final class Tape {
        static final int MOST_BYTES = 940;
        static final int END = 0;
        static final int WORD = 1;
        static final int NUMBER = 2;
        static final int SEMICOLON = 3;
        static final int NO_TOKEN = 4;

        final byte[] bytes = new byte[MOST_BYTES];
        int size = 0;
        int token = END;
        int place = 0;
        int number = 0;
        long name = 0;
        private int position = 0;
        private int stop = 0;

        boolean hasRoomFor(int more) {
            return size + more <= MOST_BYTES;
        }

        void addNumber(int value) {
            for (int shift = 24; shift >= 0 && size < MOST_BYTES; shift -= 8) {
                bytes[size] = (byte) (value >>> shift);
                size++;
            }
        }

        void cut(int length) {
            size = length;
        }

        /** TOKENS that begin at the most bytes told or behind are not read. */
        void startReading(int mostBytes) {
            position = 0;
            stop = Math.min(size, mostBytes);
        }

        void next() {
            while (position < stop && (bytes[position] == 32 || bytes[position] == 10)) {
                position++;
            }
            if (position >= stop) {
                token = END;
                place = stop;
                return;
            }
            place = position;
            readWordOrNumber();
            if (position == place) {
                token = bytes[position] == ';' ? SEMICOLON : NO_TOKEN;
                position++;
            }
        }

        private void readWordOrNumber() {
            int letters = 0;
            int digits = 0;
            number = 0;
            name = 0;
            for (; position < size; position++) {
                byte sign = bytes[position];
                if (sign >= 'a' && sign <= 'z') {
                    letters++;
                    name = name * 32 + (sign - 'a' + 1);
                } else if (sign >= '0' && sign <= '9') {
                    digits++;
                    number = number * 10 + (sign - '0');
                } else {
                    break;
                }
            }
            boolean word = digits == 0 && letters <= 7;
            boolean figures = letters == 0 && digits <= 2;
            token = word ? WORD : figures ? NUMBER : NO_TOKEN;
        }

        boolean isWord(String text) {
            if (token != WORD || position - place != text.length()) {
                return false;
            }
            for (int i = 0; i < text.length() && place + i < MOST_BYTES; i++) {
                if (bytes[place + i] != text.charAt(i)) {
                    return false;
                }
            }
            return true;
        }

        boolean isName() {
            if (isWord("person") || isWord("limit") || isWord("deal") || isWord("either")) {
                return false;
            }
            if (isWord("law") || isWord("life") || isWord("years") || isWord("part")) {
                return false;
            }
            return token == WORD && !isWord("lends") && !isWord("borrows") && !isWord("turned");
        }
    }

    /** Reads the tape as a TOWN or as a BOOK, up to the first FAULT. */
    private static final class Reader {
        private static final int TOWN_BYTES = 900;
        private static final int BOOK_BYTES = 600;
        private static final int BOOK_LINES = 40;
        private static final int NOT_TO_COME = 1;
        private static final int BAD_NUMBER = 2;
        private static final int BAD_NAME = 3;
        private static final int TOO_MANY = 4;

        final int[] bookDeals = new int[BOOK_LINES];
        final int[] bookWays = new int[BOOK_LINES];
        int lines = 0;
        int kind = 0;
        int place = 0;
        private final Tape tape;
        private int limitsTold = 0;
        private int partsTold = 0;
        private boolean lawTold = false;

        Reader(Tape tape) {
            this.tape = tape;
        }

        boolean readTown(Town t) {
            t.clear();
            limitsTold = 0;
            partsTold = 0;
            lawTold = false;
            start(TOWN_BYTES);
            for (int n = 0; n <= TOWN_BYTES; n++) {
                tape.next();
                if (tape.token == Tape.END) {
                    t.orderByYear();
                    return isWholeText(TOWN_BYTES);
                }
                if (!readLine(t)) {
                    return false;
                }
                lines++;
            }
            return false;
        }

        boolean readBook(Town t) {
            start(BOOK_BYTES);
            for (int n = 0; n <= BOOK_BYTES; n++) {
                tape.next();
                if (tape.token == Tape.END) {
                    return isWholeText(BOOK_BYTES);
                }
                if (!readBookLine(t)) {
                    return false;
                }
                lines++;
            }
            return false;
        }

        private void start(int mostBytes) {
            tape.startReading(mostBytes);
            lines = 0;
            kind = 0;
            place = 0;
        }

        private boolean isWholeText(int mostBytes) {
            return tape.size <= mostBytes || refuse(NOT_TO_COME);
        }

        private boolean refuse(int fault) {
            kind = fault;
            place = tape.place;
            return false;
        }

        private boolean readLine(Town t) {
            if (tape.isWord("person")) {
                return readPerson(t);
            }
            if (tape.isWord("limit")) {
                return readLimit(t);
            }
            if (tape.isWord("deal")) {
                return readDeal(t) && readGains(t, t.deals);
            }
            if (tape.isWord("law")) {
                return readLaw(t);
            }
            if (tape.isWord("part")) {
                return readPart(t);
            }
            return refuse(NOT_TO_COME);
        }

        private boolean readPerson(Town t) {
            if (t.persons >= MOST_PERSONS) {
                return refuse(TOO_MANY);
            }
            if (!readNewName(t)) {
                return false;
            }
            long name = tape.name;
            if (!readNumber(0, YEARS - 1)) {
                return false;
            }
            int born = tape.number;
            if (!readNumber(born, YEARS - 1)) {
                return false;
            }
            t.addPerson(name, born, tape.number);
            return readSemicolon();
        }

        private boolean readLimit(Town t) {
            int p = readKnownPerson(t);
            if (p == NONE) {
                return false;
            }
            if ((limitsTold >> p & 1) == 1) {
                return refuse(BAD_NAME);
            }
            limitsTold |= 1 << p;
            if (!readNumber(0, 9)) {
                return false;
            }
            t.limit[p] = tape.number;
            return readSemicolon();
        }

        private boolean readDeal(Town t) {
            if (t.deals >= MOST_DEALS) {
                return refuse(TOO_MANY);
            }
            if (!readNewName(t)) {
                return false;
            }
            t.dealNames[t.deals] = tape.name;
            int lender = readKnownPerson(t);
            if (lender == NONE) {
                return false;
            }
            int borrower = readKnownPerson(t);
            if (borrower == NONE) {
                return false;
            }
            if (borrower == lender) {
                return refuse(BAD_NAME);
            }
            int from = Math.max(t.born[lender], t.born[borrower]);
            int to = Math.min(t.dies[lender], t.dies[borrower]);
            if (!readNumber(from, to)) {
                return false;
            }
            t.lender[t.deals] = lender;
            t.borrower[t.deals] = borrower;
            t.year[t.deals] = tape.number;
            return true;
        }

        private boolean readGains(Town t, int d) {
            if (!readNumber(0, 99)) {
                return false;
            }
            t.lenderGain[d] = tape.number;
            if (!readNumber(0, 99)) {
                return false;
            }
            t.borrowerGain[d] = tape.number;
            tape.next();
            t.either[d] = tape.isWord("either") ? 1 : 0;
            if (t.either[d] == 1) {
                tape.next();
            }
            t.deals++;
            return atSemicolon();
        }

        private boolean readLaw(Town t) {
            if (lawTold) {
                return refuse(BAD_NAME);
            }
            lawTold = true;
            tape.next();
            if (tape.isWord("years")) {
                if (!readNumber(1, YEARS)) {
                    return false;
                }
                t.lawYears = tape.number;
            } else if (!tape.isWord("life")) {
                return refuse(NOT_TO_COME);
            }
            return readSemicolon();
        }

        private boolean readPart(Town t) {
            int p = readKnownPerson(t);
            if (p == NONE) {
                return false;
            }
            if ((partsTold >> p & 1) == 1) {
                return refuse(BAD_NAME);
            }
            partsTold |= 1 << p;
            tape.next();
            if (tape.isWord("lends")) {
                t.toldParts |= 1 << p;
            } else if (!tape.isWord("borrows")) {
                return refuse(NOT_TO_COME);
            }
            return readSemicolon();
        }

        private boolean readBookLine(Town t) {
            if (!tape.isName()) {
                return refuse(NOT_TO_COME);
            }
            int d = t.findDeal(tape.name);
            if (d == NONE) {
                return refuse(BAD_NAME);
            }
            if (lines >= BOOK_LINES) {
                return refuse(TOO_MANY);
            }
            tape.next();
            boolean turned = tape.isWord("turned");
            if (turned) {
                tape.next();
            }
            bookDeals[lines] = d;
            bookWays[lines] = turned ? TURNED : AS_TOLD;
            return atSemicolon();
        }

        private boolean readSemicolon() {
            tape.next();
            return atSemicolon();
        }

        private boolean atSemicolon() {
            return tape.token == Tape.SEMICOLON || refuse(NOT_TO_COME);
        }

        private boolean readNumber(int least, int most) {
            tape.next();
            if (tape.token != Tape.NUMBER) {
                return refuse(NOT_TO_COME);
            }
            return tape.number >= least && tape.number <= most || refuse(BAD_NUMBER);
        }

        private boolean readNewName(Town t) {
            tape.next();
            if (!tape.isName()) {
                return refuse(NOT_TO_COME);
            }
            boolean isNew = t.findPerson(tape.name) == NONE && t.findDeal(tape.name) == NONE;
            return isNew || refuse(BAD_NAME);
        }

        /** The PERSON, or NONE behind a FAULT. */
        private int readKnownPerson(Town t) {
            tape.next();
            if (!tape.isName()) {
                refuse(NOT_TO_COME);
                return NONE;
            }
            int p = t.findPerson(tape.name);
            if (p == NONE) {
                refuse(BAD_NAME);
            }
            return p;
        }
    }

    /** PERSONS, DEALS and the law, as told. */
    private static final class Town {
        int persons = 0;
        int deals = 0;
        int lawYears = 0;
        int toldParts = 0;
        final long[] personNames = new long[MOST_PERSONS];
        final int[] born = new int[MOST_PERSONS];
        final int[] dies = new int[MOST_PERSONS];
        final int[] limit = new int[MOST_PERSONS];
        final long[] dealNames = new long[MOST_DEALS];
        final int[] lender = new int[MOST_DEALS];
        final int[] borrower = new int[MOST_DEALS];
        final int[] year = new int[MOST_DEALS];
        final int[] lenderGain = new int[MOST_DEALS];
        final int[] borrowerGain = new int[MOST_DEALS];
        final int[] either = new int[MOST_DEALS];
        final int[] byYear = new int[MOST_DEALS];
        final Memo memo = new Memo();

        void clear() {
            persons = 0;
            deals = 0;
            lawYears = 0;
            toldParts = 0;
            memo.forget();
        }

        void copyFrom(Town other) {
            persons = other.persons;
            deals = other.deals;
            lawYears = other.lawYears;
            toldParts = other.toldParts;
            System.arraycopy(other.personNames, 0, personNames, 0, MOST_PERSONS);
            System.arraycopy(other.born, 0, born, 0, MOST_PERSONS);
            System.arraycopy(other.dies, 0, dies, 0, MOST_PERSONS);
            System.arraycopy(other.limit, 0, limit, 0, MOST_PERSONS);
            System.arraycopy(other.dealNames, 0, dealNames, 0, MOST_DEALS);
            System.arraycopy(other.lender, 0, lender, 0, MOST_DEALS);
            System.arraycopy(other.borrower, 0, borrower, 0, MOST_DEALS);
            System.arraycopy(other.year, 0, year, 0, MOST_DEALS);
            System.arraycopy(other.lenderGain, 0, lenderGain, 0, MOST_DEALS);
            System.arraycopy(other.borrowerGain, 0, borrowerGain, 0, MOST_DEALS);
            System.arraycopy(other.either, 0, either, 0, MOST_DEALS);
            System.arraycopy(other.byYear, 0, byYear, 0, MOST_DEALS);
            memo.copyFrom(other.memo);
        }

        void addPerson(long name, int bornIn, int diesIn) {
            if (persons >= MOST_PERSONS) {
                return;
            }
            personNames[persons] = name;
            born[persons] = bornIn;
            dies[persons] = diesIn;
            limit[persons] = 9;
            persons++;
        }

        void orderByYear() {
            for (int d = 0; d < deals; d++) {
                int at = d;
                while (at > 0 && year[byYear[at - 1]] > year[d]) {
                    byYear[at] = byYear[at - 1];
                    at--;
                }
                byYear[at] = d;
            }
        }

        boolean hasPerson(int p) {
            return p >= 0 && p < persons;
        }

        boolean hasDeal(int d) {
            return d >= 0 && d < deals;
        }

        boolean hasParts(int parts) {
            return parts >= 0 && parts < partsCount();
        }

        int partsCount() {
            return 1 << persons;
        }

        int findPerson(long name) {
            for (int p = 0; p < persons; p++) {
                if (personNames[p] == name) {
                    return p;
                }
            }
            return NONE;
        }

        int findDeal(long name) {
            for (int d = 0; d < deals; d++) {
                if (dealNames[d] == name) {
                    return d;
                }
            }
            return NONE;
        }

        boolean isIn(int d, int p) {
            return lender[d] == p || borrower[d] == p;
        }

        int otherIn(int d, int p) {
            return lender[d] == p ? borrower[d] : lender[d];
        }

        int shareOf(int d, int p) {
            return lender[d] == p ? lenderGain[d] : borrower[d] == p ? borrowerGain[d] : 0;
        }

        int bothShares(int d) {
            return lenderGain[d] + borrowerGain[d];
        }

        boolean goesBy(int d, int parts) {
            int lenderLends = parts >> lender[d] & 1;
            int borrowerLends = parts >> borrower[d] & 1;
            return lenderLends != borrowerLends && (lenderLends == 1 || either[d] == 1);
        }

        int ownOf(int p, int parts) {
            int sum = 0;
            for (int d = 0; d < deals; d++) {
                if (isIn(d, p) && goesBy(d, parts)) {
                    sum += shareOf(d, p);
                }
            }
            return sum;
        }

        boolean hasMoreByChange(int p, int parts) {
            return ownOf(p, parts ^ (1 << p)) > ownOf(p, parts);
        }

        boolean isAtRest(int parts) {
            for (int p = 0; p < persons; p++) {
                if (hasMoreByChange(p, parts)) {
                    return false;
                }
            }
            return true;
        }

        int personsWithDeals() {
            int bits = 0;
            for (int d = 0; d < deals; d++) {
                bits |= 1 << lender[d] | 1 << borrower[d];
            }
            return bits;
        }

        /** Whether each of those who deal lends himself or has a DEAL in which one of the lenders lends to him. */
        boolean allServed(int lenders, int dealing) {
            int served = lenders;
            for (int d = 0; d < deals; d++) {
                if ((lenders >> lender[d] & 1) == 1) {
                    served |= 1 << borrower[d];
                }
                if (either[d] == 1 && (lenders >> borrower[d] & 1) == 1) {
                    served |= 1 << lender[d];
                }
            }
            return (dealing & ~served) == 0;
        }
    }

    /** What was reckoned of a TOWN: it changes with the TOWN alone, so that it is reckoned once. */
    private static final class Memo {
        final int[] gains = new int[MOST_PARTS];
        final int[] rests = new int[MOST_PARTS];
        int restCount = NONE;
        final int[] lawfulWays = new int[MOST_LAWFUL];
        int lawfulGain = NONE;

        Memo() {
            Arrays.fill(gains, NONE);
        }

        void forget() {
            Arrays.fill(gains, NONE);
            restCount = NONE;
            lawfulGain = NONE;
        }

        void copyFrom(Memo other) {
            System.arraycopy(other.gains, 0, gains, 0, MOST_PARTS);
            System.arraycopy(other.rests, 0, rests, 0, MOST_PARTS);
            System.arraycopy(other.lawfulWays, 0, lawfulWays, 0, MOST_LAWFUL);
            restCount = other.restCount;
            lawfulGain = other.lawfulGain;
        }
    }

    /** The DEALS done, in their order. */
    private static final class Book {
        private final int[] deal = new int[MOST_DEALS];
        private final int[] way = new int[MOST_DEALS];
        private final int[] foundNothing = new int[MOST_DEALS];
        int size = 0;

        void clear() {
            size = 0;
        }

        void copyFrom(Book other) {
            System.arraycopy(other.deal, 0, deal, 0, MOST_DEALS);
            System.arraycopy(other.way, 0, way, 0, MOST_DEALS);
            System.arraycopy(other.foundNothing, 0, foundNothing, 0, MOST_DEALS);
            size = other.size;
        }

        /** 0, and the DEAL is done, or why it is WRONG. */
        int tryDeal(Town t, int d, int how) {
            int wrong = wrongOf(t, d, how);
            if (wrong != 0 || size >= MOST_DEALS) {
                return wrong;
            }
            int found = 0;
            if (whatIs(t, t.lender[d], t.year[d]) == NOTHING) {
                found |= 1 << t.lender[d];
            }
            if (whatIs(t, t.borrower[d], t.year[d]) == NOTHING) {
                found |= 1 << t.borrower[d];
            }
            deal[size] = d;
            way[size] = how;
            foundNothing[size] = found;
            size++;
            return 0;
        }

        void dropLast() {
            if (size > 0) {
                size--;
            }
        }

        int wayDone(int d) {
            for (int i = 0; i < size; i++) {
                if (deal[i] == d) {
                    return way[i];
                }
            }
            return NOT_DONE;
        }

        int wrongOf(Town t, int d, int how) {
            if (wayDone(d) != NOT_DONE) {
                return 1;
            }
            if (how == TURNED && t.either[d] == 0) {
                return 2;
            }
            int year = t.year[d];
            if (size > 0 && year < t.year[deal[size - 1]]) {
                return 3;
            }
            int lends = how == TURNED ? t.borrower[d] : t.lender[d];
            int borrows = t.otherIn(d, lends);
            if (whatIs(t, lends, year) == BORROWER) {
                return 4;
            }
            if (whatIs(t, borrows, year) == LENDER) {
                return 5;
            }
            return didAll(t, lends, year) || didAll(t, borrows, year) ? 6 : 0;
        }

        private boolean didAll(Town t, int p, int year) {
            int did = 0;
            for (int i = 0; i < size; i++) {
                if (t.year[deal[i]] == year && t.isIn(deal[i], p)) {
                    did++;
                }
            }
            return did >= t.limit[p];
        }

        int whatIs(Town t, int p, int year) {
            for (int i = size - 1; i >= 0; i--) {
                int d = deal[i];
                if (t.year[d] <= year && (foundNothing[i] >> p & 1) == 1) {
                    boolean bound = t.lawYears == 0 || year < t.year[d] + t.lawYears;
                    int lends = way[i] == TURNED ? t.borrower[d] : t.lender[d];
                    return !bound ? NOTHING : lends == p ? LENDER : BORROWER;
                }
            }
            return NOTHING;
        }

        int sharesOf(Town t, int p) {
            int sum = 0;
            for (int i = 0; i < size; i++) {
                sum += t.shareOf(deal[i], p);
            }
            return sum;
        }
    }

    /** GAIN of PARTS: in each year a flow from lenders to borrowers, made greater path by path. */
    private static final class Flow {
        private static final int UNREACHED = -1000000;

        private final int[] lends = new int[MOST_DEALS];
        private final int[] borrows = new int[MOST_DEALS];
        private final int[] worth = new int[MOST_DEALS];
        private final int[] wanted = new int[MOST_PERSONS];
        private final int[] room = new int[MOST_PERSONS];
        private final int[] reach = new int[MOST_PERSONS];
        private final int[] via = new int[MOST_PERSONS];
        private int going = 0;
        private int chosen = 0;

        int gainOf(Town t, int parts) {
            if (t.memo.gains[parts] == NONE) {
                t.memo.gains[parts] = gainWithLimit(t, parts, NONE, 0);
            }
            return t.memo.gains[parts];
        }

        /** GAIN, as if the limit of PERSON changed (NONE: nobody) were another. */
        int gainWithLimit(Town t, int parts, int changed, int limit) {
            int sum = 0;
            int from = 0;
            for (int i = 1; i <= t.deals; i++) {
                if (i == t.deals || t.year[t.byYear[i]] != t.year[t.byYear[from]]) {
                    System.arraycopy(t.limit, 0, room, 0, MOST_PERSONS);
                    if (changed != NONE) {
                        room[changed] = limit;
                    }
                    gather(t, parts, from, i);
                    sum += gainOfYear(t.persons, parts);
                    from = i;
                }
            }
            return sum;
        }

        private void gather(Town t, int parts, int from, int to) {
            going = 0;
            Arrays.fill(wanted, 0);
            for (int i = from; i < to; i++) {
                int d = t.byYear[i];
                if (t.goesBy(d, parts)) {
                    boolean asTold = (parts >> t.lender[d] & 1) == 1;
                    lends[going] = asTold ? t.lender[d] : t.borrower[d];
                    borrows[going] = asTold ? t.borrower[d] : t.lender[d];
                    worth[going] = t.bothShares(d);
                    wanted[t.lender[d]]++;
                    wanted[t.borrower[d]]++;
                    going++;
                }
            }
        }

        private int gainOfYear(int persons, int parts) {
            if (allFit(persons)) {
                return sumOfGoing();
            }
            chosen = 0;
            int sum = 0;
            for (int path = 0; path < going; path++) {
                spread(persons, parts);
                int last = bestEnd(persons, parts);
                if (last == NONE) {
                    return sum;
                }
                sum += reach[last];
                turnPath(last);
            }
            return sum;
        }

        private boolean allFit(int persons) {
            for (int p = 0; p < persons; p++) {
                if (wanted[p] > room[p]) {
                    return false;
                }
            }
            return true;
        }

        private int sumOfGoing() {
            int sum = 0;
            for (int i = 0; i < going; i++) {
                sum += worth[i];
            }
            return sum;
        }

        /** The most that a path from a lender with room to each PERSON adds: DEALS not chosen lead on, chosen ones back. */
        private void spread(int persons, int parts) {
            for (int p = 0; p < persons; p++) {
                boolean start = (parts >> p & 1) == 1 && room[p] > 0;
                reach[p] = start ? 0 : UNREACHED;
                via[p] = NONE;
            }
            boolean grew = true;
            for (int pass = 0; pass <= MOST_PERSONS && grew; pass++) {
                grew = false;
                for (int i = 0; i < going; i++) {
                    if (leadAlong(i)) {
                        grew = true;
                    }
                }
            }
        }

        private boolean leadAlong(int i) {
            boolean back = (chosen >> i & 1) == 1;
            int from = back ? borrows[i] : lends[i];
            int to = back ? lends[i] : borrows[i];
            int added = back ? -worth[i] : worth[i];
            if (reach[from] == UNREACHED || reach[from] + added <= reach[to]) {
                return false;
            }
            reach[to] = reach[from] + added;
            via[to] = i;
            return true;
        }

        private int bestEnd(int persons, int parts) {
            int end = NONE;
            int most = 0;
            for (int p = 0; p < persons; p++) {
                boolean borrower = (parts >> p & 1) == 0;
                if (borrower && room[p] > 0 && reach[p] > most) {
                    most = reach[p];
                    end = p;
                }
            }
            return end;
        }

        private void turnPath(int last) {
            int p = last;
            for (int step = 0; step <= MOST_PERSONS && via[p] != NONE; step++) {
                int i = via[p];
                chosen ^= 1 << i;
                p = lends[i] == p ? borrows[i] : lends[i];
            }
            room[p]--;
            room[last]--;
        }
    }

    /** ROUNDS, and how the latest ones ended. */
    private static final class Rounds {
        private final int[] behindRound = new int[MOST_PARTS];
        boolean known = false;
        int lastParts = 0;
        int length = 0;

        int follow(Town t, int from) {
            Arrays.fill(behindRound, NONE);
            behindRound[from] = 0;
            known = true;
            lastParts = from;
            length = 0;
            for (int round = 1; round <= MOST_PARTS; round++) {
                int next = behindOne(t, lastParts);
                if (next == lastParts) {
                    return round;
                }
                lastParts = next;
                if (behindRound[next] != NONE) {
                    length = round - behindRound[next];
                    return round;
                }
                behindRound[next] = round;
            }
            return MOST_PARTS;
        }

        private static int behindOne(Town t, int from) {
            int parts = from;
            for (int p = 0; p < t.persons; p++) {
                if (t.hasMoreByChange(p, parts)) {
                    parts ^= 1 << p;
                }
            }
            return parts;
        }
    }

    /** ONE: a PERSON's best years, and the row of them that was kept last. */
    private static final class Choice {
        final int[] most = new int[YEARS + 1];
        final int[] row = new int[YEARS];
        boolean kept = false;
        private final int[] lending = new int[YEARS + 1];
        private final int[] borrowing = new int[YEARS + 1];
        private int boundYears = YEARS;

        /** most[y]: what he can have from year y on, if he is free then. */
        void reckon(Town t, int p, int parts, int lawYears) {
            boundYears = lawYears == 0 ? YEARS : lawYears;
            addUp(t, p, parts | 1 << p, lending);
            addUp(t, p, parts & ~(1 << p), borrowing);
            most[YEARS] = 0;
            for (int y = YEARS - 1; y >= 0; y--) {
                most[y] = Math.max(most[y + 1], Math.max(byBinding(lending, y), byBinding(borrowing, y)));
            }
        }

        /** sums[y]: what is his in all years ahead of y. */
        private static void addUp(Town t, int p, int parts, int[] sums) {
            Arrays.fill(sums, 0);
            for (int d = 0; d < t.deals; d++) {
                if (t.goesBy(d, parts)) {
                    sums[t.year[d] + 1] += t.shareOf(d, p);
                }
            }
            for (int y = 0; y < YEARS; y++) {
                sums[y + 1] += sums[y];
            }
        }

        private int byBinding(int[] sums, int y) {
            int free = freeAgain(y);
            return sums[free] - sums[y] + most[free];
        }

        private int freeAgain(int y) {
            return Math.min(YEARS, y + boundYears);
        }

        /** Of rows with as much the first one: he binds himself only where waiting would cost him. */
        void keepRow() {
            kept = true;
            int boundUntil = 0;
            int what = NOTHING;
            int[] sums = lending;
            for (int y = 0; y < YEARS; y++) {
                if (y < boundUntil) {
                    row[y] = sums[y + 1] > sums[y] ? what : NOTHING;
                } else if (most[y] == most[y + 1]) {
                    row[y] = NOTHING;
                } else {
                    boolean lends = most[y] == byBinding(lending, y);
                    what = lends ? LENDER : BORROWER;
                    sums = lends ? lending : borrowing;
                    boundUntil = freeAgain(y);
                    row[y] = what;
                }
            }
        }
    }

    /** LAWFUL, and what the latest one told of each DEAL. */
    private static final class LawfulSearch {
        final int[] toldWays = new int[MOST_LAWFUL];
        int toldDeals = 0;
        private final Book trial = new Book();
        private final int[] ways = new int[MOST_LAWFUL];
        private final int[] ahead = new int[MOST_LAWFUL + 1];

        int reckon(Town t) {
            if (t.memo.lawfulGain == NONE) {
                ahead[t.deals] = 0;
                for (int i = t.deals - 1; i >= 0; i--) {
                    ahead[i] = ahead[i + 1] + t.bothShares(t.byYear[i]);
                }
                trial.clear();
                tryFrom(t, 0, 0);
            }
            System.arraycopy(t.memo.lawfulWays, 0, toldWays, 0, MOST_LAWFUL);
            toldDeals = t.deals;
            return t.memo.lawfulGain;
        }

        /** Of ways with like gains the first one found is kept, so that ways are tried in the order told. */
        private void tryFrom(Town t, int i, int sum) {
            if (i > MOST_LAWFUL || sum + ahead[i] <= t.memo.lawfulGain) {
                return;
            }
            if (i >= t.deals) {
                t.memo.lawfulGain = sum;
                System.arraycopy(ways, 0, t.memo.lawfulWays, 0, MOST_LAWFUL);
                return;
            }
            int d = t.byYear[i];
            for (int way = NOT_DONE; way <= TURNED; way++) {
                ways[d] = way;
                if (way == NOT_DONE) {
                    tryFrom(t, i + 1, sum);
                } else if (trial.tryDeal(t, d, way) == 0) {
                    tryFrom(t, i + 1, sum + t.bothShares(d));
                    trial.dropLast();
                }
            }
        }
    }

    /** Pairs of PERSONS who dealt with one another. */
    private static final class Meetings {
        static final int MOST_JUDGED = 16;
        private static final int MOST_PAIRS = 20;

        int pairs = 0;
        private final int[] first = new int[MOST_PAIRS];
        private final int[] second = new int[MOST_PAIRS];
        private final int[] near = new int[MOST_PERSONS];
        private int met = 0;
        private int likeSide = 0;
        private int otherSide = 0;

        /** Whether the tape tells pairs of PERSONS, as it should. */
        boolean take(Tape tape, int persons) {
            pairs = 0;
            met = 0;
            Arrays.fill(near, 0);
            if (tape.size % 2 != 0 || tape.size > 2 * MOST_PAIRS) {
                return false;
            }
            for (int i = 0; i + 1 < tape.size; i += 2) {
                int a = tape.bytes[i] & 255;
                int b = tape.bytes[i + 1] & 255;
                if (a >= persons || b >= persons || a == b) {
                    return false;
                }
                addPair(a, b);
            }
            return true;
        }

        private void addPair(int a, int b) {
            first[pairs] = a;
            second[pairs] = b;
            pairs++;
            near[a] |= 1 << b;
            near[b] |= 1 << a;
            met |= 1 << a | 1 << b;
        }

        /** Each group of those who met can be the one way or the other. */
        int waysToBe() {
            int ways = 1;
            int left = met;
            for (int group = 0; group < MOST_PERSONS && left != 0; group++) {
                spreadFrom(left & -left);
                if ((likeSide & otherSide) != 0) {
                    return 0;
                }
                ways *= 2;
                left &= ~(likeSide | otherSide);
            }
            return ways;
        }

        int bound(boolean whoLend) {
            if (met == 0 || waysToBe() == 0) {
                return NONE;
            }
            spreadFrom(met & -met);
            return whoLend ? likeSide : otherSide;
        }

        private void spreadFrom(int bit) {
            likeSide = bit;
            otherSide = 0;
            int before = 0;
            for (int pass = 0; pass <= 2 * MOST_PERSONS && before != likeSide; pass++) {
                before = likeSide;
                otherSide |= nearAny(likeSide);
                likeSide |= nearAny(otherSide);
            }
        }

        private int nearAny(int side) {
            int bits = 0;
            for (int p = 0; p < MOST_PERSONS; p++) {
                if ((side >> p & 1) == 1) {
                    bits |= near[p];
                }
            }
            return bits;
        }

        /** Whatever is left out, the others are by some PARTS: so the pairs that PARTS break are enough to look at. */
        int fewestFalse(int partsCount) {
            int fewest = (1 << pairs) - 1;
            for (int parts = 0; parts < partsCount; parts++) {
                int broken = brokenBy(parts);
                int more = Integer.bitCount(broken) - Integer.bitCount(fewest);
                if (more < 0 || more == 0 && broken < fewest) {
                    fewest = broken;
                }
            }
            return fewest;
        }

        private int brokenBy(int parts) {
            int broken = 0;
            for (int i = 0; i < pairs; i++) {
                if ((parts >> first[i] & 1) == (parts >> second[i] & 1)) {
                    broken |= 1 << i;
                }
            }
            return broken;
        }
    }
}
