import java.util.ArrayList;
import java.util.Arrays;
import java.util.HashMap;
import java.util.HashSet;
import java.util.LinkedHashMap;
import java.util.List;
import java.util.Map;
import java.util.Set;
import java.util.regex.Matcher;
import java.util.regex.Pattern;

/** The document told once more, by trying everything: slow, and otherwise than the program does it. */
final class PlainTown {
    static final class Person {
        String name;
        int born;
        int dies;
        int limit = 9;
        boolean limitTold;
        String part;
    }

    static final class Deal {
        int number;
        String name;
        int lender;
        int borrower;
        int year;
        int lenderGain;
        int borrowerGain;
        boolean either;

        int both() {
            return lenderGain + borrowerGain;
        }

        boolean has(int p) {
            return lender == p || borrower == p;
        }

        int share(int p) {
            return (lender == p ? lenderGain : 0) + (borrower == p ? borrowerGain : 0);
        }
    }

    /** A DEAL done: who lent, and who was nothing when it was done. */
    record Done(int deal, boolean turned, int lends, int borrows, Set<Integer> wereNothing) {
    }

    record Token(String text, int place) {
    }

    private static final class Fault extends RuntimeException {
        private static final long serialVersionUID = 1;
        final int kind;
        final int place;

        Fault(int kind, int place) {
            this.kind = kind;
            this.place = place;
        }
    }

    private static final Set<String> RESERVED = Set.of("person", "limit", "deal", "either", "law", "life", "years",
            "part", "lends", "borrows", "turned");
    private static final Pattern RUN = Pattern.compile("[a-z0-9]+|[^a-z0-9]");

    List<Person> people = new ArrayList<>();
    List<Deal> deals = new ArrayList<>();
    int law = 0;
    List<Done> done = new ArrayList<>();
    int faultKind = 0;
    int faultPlace = 0;
    int why = 0;
    int climbed = 0;
    int endedParts = -1;
    int endedRing = -1;
    int refused = -1;
    int[] oneRow = null;
    int[] lawfulWays = null;
    final Map<Integer, Object[]> images = new HashMap<>();

    // texts

    private static List<Token> tokens(String text, int most) {
        List<Token> found = new ArrayList<>();
        Matcher m = RUN.matcher(text);
        while (m.find() && m.start() < most) {
            if (!m.group().equals(" ") && !m.group().equals("\n")) {
                found.add(new Token(m.group(), m.start()));
            }
        }
        found.add(new Token("", Math.min(text.length(), most)));
        return found;
    }

    private List<Token> rest;

    private Token take() {
        return rest.size() > 1 ? rest.remove(0) : rest.get(0);
    }

    private static void check(boolean holds, int kind, Token at) {
        if (!holds) {
            throw new Fault(kind, at.place);
        }
    }

    private int takeNumber(int least, int most) {
        Token t = take();
        check(t.text.matches("[0-9]{1,2}"), 1, t);
        int value = Integer.parseInt(t.text);
        check(value >= least && value <= most, 2, t);
        return value;
    }

    private Token takeName() {
        Token t = take();
        check(t.text.matches("[a-z]{1,7}") && !RESERVED.contains(t.text), 1, t);
        return t;
    }

    private void takeEnd() {
        Token t = take();
        check(t.text.equals(";"), 1, t);
    }

    private static int indexOfPerson(List<Person> all, String name) {
        for (Person p : all) {
            if (p.name.equals(name)) {
                return all.indexOf(p);
            }
        }
        return -1;
    }

    private static int indexOfDeal(List<Deal> all, String name) {
        for (Deal d : all) {
            if (d.name.equals(name)) {
                return d.number;
            }
        }
        return -1;
    }

    private static int knownPerson(List<Person> all, Token name) {
        int p = indexOfPerson(all, name.text);
        check(p >= 0, 3, name);
        return p;
    }

    int town(String text) {
        List<Person> newPeople = new ArrayList<>();
        List<Deal> newDeals = new ArrayList<>();
        int[] newLaw = {-1};
        int lines = 0;
        faultKind = 0;
        try {
            rest = tokens(text, 900);
            while (rest.size() > 1) {
                townLine(newPeople, newDeals, newLaw);
                lines++;
            }
            check(text.length() <= 900, 1, rest.get(0));
        } catch (Fault f) {
            faultKind = f.kind;
            return -1 - f.place;
        }
        people = newPeople;
        deals = newDeals;
        law = Math.max(0, newLaw[0]);
        done = new ArrayList<>();
        return lines;
    }

    private void townLine(List<Person> ps, List<Deal> ds, int[] newLaw) {
        Token first = take();
        switch (first.text) {
            case "person" -> {
                check(ps.size() < 10, 4, first);
                Token name = takeName();
                check(indexOfPerson(ps, name.text) < 0 && indexOfDeal(ds, name.text) < 0, 3, name);
                Person p = new Person();
                p.name = name.text;
                p.born = takeNumber(0, 59);
                p.dies = takeNumber(p.born, 59);
                ps.add(p);
            }
            case "limit" -> {
                Token name = takeName();
                Person p = ps.get(knownPerson(ps, name));
                check(!p.limitTold, 3, name);
                p.limitTold = true;
                p.limit = takeNumber(0, 9);
            }
            case "deal" -> dealLine(first, ps, ds);
            case "law" -> {
                check(newLaw[0] < 0, 3, first);
                Token what = take();
                check(what.text.equals("life") || what.text.equals("years"), 1, what);
                newLaw[0] = what.text.equals("life") ? 0 : takeNumber(1, 60);
            }
            case "part" -> {
                Token name = takeName();
                Person p = ps.get(knownPerson(ps, name));
                check(p.part == null, 3, name);
                Token what = take();
                check(what.text.equals("lends") || what.text.equals("borrows"), 1, what);
                p.part = what.text;
            }
            default -> check(false, 1, first);
        }
        takeEnd();
    }

    private void dealLine(Token first, List<Person> ps, List<Deal> ds) {
        check(ds.size() < 30, 4, first);
        Deal d = new Deal();
        Token name = takeName();
        check(indexOfPerson(ps, name.text) < 0 && indexOfDeal(ds, name.text) < 0, 3, name);
        d.name = name.text;
        d.lender = knownPerson(ps, takeName());
        Token second = takeName();
        d.borrower = knownPerson(ps, second);
        check(d.lender != d.borrower, 3, second);
        Token year = rest.get(0);
        d.year = takeNumber(0, 99);
        for (int p : new int[] {d.lender, d.borrower}) {
            check(ps.get(p).born <= d.year && d.year <= ps.get(p).dies, 2, year);
        }
        d.lenderGain = takeNumber(0, 99);
        d.borrowerGain = takeNumber(0, 99);
        if (rest.get(0).text.equals("either")) {
            take();
            d.either = true;
        }
        d.number = ds.size();
        ds.add(d);
    }

    int book(String text) {
        List<int[]> lines = new ArrayList<>();
        faultKind = 0;
        why = 0;
        try {
            rest = tokens(text, 600);
            while (rest.size() > 1) {
                Token name = takeName();
                int d = indexOfDeal(deals, name.text);
                check(d >= 0, 3, name);
                check(lines.size() < 40, 4, name);
                boolean turned = rest.get(0).text.equals("turned");
                if (turned) {
                    take();
                }
                takeEnd();
                lines.add(new int[] {d, turned ? 1 : 0});
            }
            check(text.length() <= 600, 1, rest.get(0));
        } catch (Fault f) {
            faultKind = f.kind;
            return -2 - f.place;
        }
        done = new ArrayList<>();
        for (int i = 0; i < lines.size(); i++) {
            why = does(lines.get(i)[0], lines.get(i)[1]);
            if (why != 0) {
                return i;
            }
        }
        return -1;
    }

    // the book

    private int whatIs(List<Done> book, int p, int year) {
        Done binding = null;
        for (Done x : book) {
            if (deals.get(x.deal).year <= year && x.wereNothing.contains(p)) {
                binding = x;
            }
        }
        if (binding == null) {
            return 0;
        }
        int from = deals.get(binding.deal).year;
        boolean on = law == 0 || year <= from + law - 1;
        return !on ? 0 : binding.lends == p ? 1 : 2;
    }

    private int wrong(List<Done> book, int d, int turned) {
        Deal deal = deals.get(d);
        int lends = turned == 1 ? deal.borrower : deal.lender;
        int borrows = turned == 1 ? deal.lender : deal.borrower;
        for (Done x : book) {
            if (x.deal == d) {
                return 1;
            }
        }
        if (turned == 1 && !deal.either) {
            return 2;
        }
        if (book.size() > 0 && deals.get(book.get(book.size() - 1).deal).year > deal.year) {
            return 3;
        }
        if (whatIs(book, lends, deal.year) == 2) {
            return 4;
        }
        if (whatIs(book, borrows, deal.year) == 1) {
            return 5;
        }
        for (int p : new int[] {lends, borrows}) {
            long did = book.stream().map(x -> deals.get(x.deal)).filter(x -> x.year == deal.year && x.has(p)).count();
            if (did + 1 > people.get(p).limit) {
                return 6;
            }
        }
        return 0;
    }

    private void put(List<Done> book, int d, int turned) {
        Deal deal = deals.get(d);
        Set<Integer> nothing = new HashSet<>();
        for (int p : new int[] {deal.lender, deal.borrower}) {
            if (whatIs(book, p, deal.year) == 0) {
                nothing.add(p);
            }
        }
        int lends = turned == 1 ? deal.borrower : deal.lender;
        int borrows = turned == 1 ? deal.lender : deal.borrower;
        book.add(new Done(d, turned == 1, lends, borrows, nothing));
    }

    boolean isPerson(int p) {
        return p >= 0 && p < people.size();
    }

    boolean isDeal(int d) {
        return d >= 0 && d < deals.size();
    }

    boolean areParts(int parts) {
        return parts >= 0 && parts < allParts();
    }

    private int allParts() {
        return (int) Math.round(Math.pow(2, people.size()));
    }

    int does(int d, int turned) {
        if (!isDeal(d) || turned != 0 && turned != 1) {
            return -1;
        }
        int wrong = wrong(done, d, turned);
        if (wrong == 0) {
            put(done, d, turned);
        }
        return wrong;
    }

    int undo() {
        if (done.isEmpty()) {
            return -1;
        }
        done.remove(done.size() - 1);
        return done.size();
    }

    int is(int p, int year) {
        return isPerson(p) && year >= 0 && year <= 59 ? whatIs(done, p, year) : -1;
    }

    int may(int turned) {
        if (turned != 0 && turned != 1) {
            return -1;
        }
        int bits = 0;
        for (Deal d : deals) {
            bits += wrong(done, d.number, turned) == 0 ? 1 << d.number : 0;
        }
        return bits;
    }

    int had(int p) {
        return isPerson(p) ? done.stream().mapToInt(x -> deals.get(x.deal).share(p)).sum() : -1;
    }

    int wayDone(int d) {
        for (Done x : done) {
            if (x.deal == d) {
                return x.turned ? 2 : 1;
            }
        }
        return 0;
    }

    // parts

    private static boolean lends(int parts, int p) {
        return (parts & 1 << p) != 0;
    }

    private boolean dealGoes(Deal d, int parts) {
        boolean straight = lends(parts, d.lender) && !lends(parts, d.borrower);
        boolean turned = d.either && lends(parts, d.borrower) && !lends(parts, d.lender);
        return straight || turned;
    }

    int goes(int parts) {
        if (!areParts(parts)) {
            return -1;
        }
        int bits = 0;
        for (Deal d : deals) {
            bits += dealGoes(d, parts) ? 1 << d.number : 0;
        }
        return bits;
    }

    /** For every row of how many DEALS each did, the most gains: DEAL by DEAL. */
    private int gainWith(int parts, int[] limits) {
        int sum = 0;
        for (int year = 0; year < 60; year++) {
            Map<List<Integer>, Integer> best = new HashMap<>();
            best.put(Arrays.stream(limits).boxed().toList(), 0);
            for (Deal d : deals) {
                if (d.year != year || !dealGoes(d, parts)) {
                    continue;
                }
                Map<List<Integer>, Integer> next = new HashMap<>(best);
                for (Map.Entry<List<Integer>, Integer> before : best.entrySet()) {
                    List<Integer> left = new ArrayList<>(before.getKey());
                    left.set(d.lender, left.get(d.lender) - 1);
                    left.set(d.borrower, left.get(d.borrower) - 1);
                    if (left.get(d.lender) >= 0 && left.get(d.borrower) >= 0) {
                        next.merge(left, before.getValue() + d.both(), Math::max);
                    }
                }
                best = next;
            }
            int most = 0;
            for (int value : best.values()) {
                most = Math.max(most, value);
            }
            sum += most;
        }
        return sum;
    }

    int gain(int parts) {
        return areParts(parts) ? gainWith(parts, limits()) : -1;
    }

    private int[] limits() {
        return people.stream().mapToInt(p -> p.limit).toArray();
    }

    int best() {
        return gain(bestParts());
    }

    int bestParts() {
        int best = -1;
        int at = 0;
        for (int parts = 0; parts < allParts(); parts++) {
            int g = gain(parts);
            if (g > best) {
                best = g;
                at = parts;
            }
        }
        return at;
    }

    int above(int v) {
        int many = 0;
        for (int parts = 0; parts < allParts(); parts++) {
            many += gain(parts) >= v ? 1 : 0;
        }
        return many;
    }

    int price(int p, int parts) {
        if (!isPerson(p) || !areParts(parts)) {
            return -1;
        }
        int[] wider = limits();
        wider[p]++;
        return gainWith(parts, wider) - gain(parts);
    }

    int loss(int p, int parts) {
        if (!isPerson(p) || !areParts(parts)) {
            return -1;
        }
        int[] none = limits();
        none[p] = 0;
        return gain(parts) - gainWith(parts, none);
    }

    int climb(int parts) {
        if (!areParts(parts)) {
            return -1;
        }
        climbed = 0;
        int here = parts;
        int p = 0;
        while (p < people.size()) {
            int other = lends(here, p) ? here - (1 << p) : here + (1 << p);
            if (gain(other) > gain(here)) {
                here = other;
                climbed++;
                p = 0;
            } else {
                p++;
            }
        }
        return here;
    }

    int told() {
        int bits = 0;
        for (int p = 0; p < people.size(); p++) {
            bits += "lends".equals(people.get(p).part) ? 1 << p : 0;
        }
        return bits;
    }

    int own(int p, int parts) {
        if (!isPerson(p) || !areParts(parts)) {
            return -1;
        }
        return deals.stream().filter(d -> dealGoes(d, parts)).mapToInt(d -> d.share(p)).sum();
    }

    private static int changed(int parts, int p) {
        return lends(parts, p) ? parts - (1 << p) : parts + (1 << p);
    }

    int rests(int k) {
        List<Integer> found = new ArrayList<>();
        for (int parts = 0; parts < allParts(); parts++) {
            boolean rests = true;
            for (int p = 0; p < people.size(); p++) {
                rests &= own(p, changed(parts, p)) <= own(p, parts);
            }
            if (rests) {
                found.add(parts);
            }
        }
        return k == -1 ? found.size() : k >= 0 && k < found.size() ? found.get(k) : -1;
    }

    int rounds(int parts) {
        if (!areParts(parts)) {
            return -1;
        }
        List<Integer> behind = new ArrayList<>(List.of(parts));
        while (true) {
            int start = behind.get(behind.size() - 1);
            int here = start;
            boolean any = false;
            for (int p = 0; p < people.size(); p++) {
                if (own(p, changed(here, p)) > own(p, here)) {
                    here = changed(here, p);
                    any = true;
                }
            }
            int round = behind.size();
            endedParts = here;
            if (!any) {
                endedRing = 0;
                return round;
            }
            if (behind.contains(here)) {
                endedRing = round - behind.indexOf(here);
                return round;
            }
            behind.add(here);
        }
    }

    int ended(int what) {
        return what == 0 ? endedParts : what == 1 ? endedRing : -1;
    }

    // a person's best years: the state is what he is bound to (0: free) and for how many years more

    private int[][][] memo;
    private int[][] yearGain;
    private int years;

    private int bestFrom(int year, int bound, int more) {
        if (year == 60) {
            return 0;
        }
        if (memo[year][bound][more] < 0) {
            int best = 0;
            for (int what = 0; what <= 2; what++) {
                best = Math.max(best, valueOf(year, bound, more, what));
            }
            memo[year][bound][more] = best;
        }
        return memo[year][bound][more];
    }

    private int valueOf(int year, int bound, int more, int what) {
        if (bound != 0 && what != 0 && what != bound) {
            return -1;
        }
        int[] next = nextState(bound, more, what);
        return yearGain[year][what] + bestFrom(year + 1, next[0], next[1]);
    }

    private int[] nextState(int bound, int more, int what) {
        int nextBound = bound != 0 ? bound : what;
        int nextMore = bound != 0 ? more - 1 : what != 0 ? years - 1 : 0;
        return nextMore == 0 ? new int[] {0, 0} : new int[] {nextBound, nextMore};
    }

    private int reckonOne(int p, int parts, int n) {
        years = n == 0 ? 100 : n;
        memo = new int[60][3][101];
        yearGain = new int[60][3];
        for (int[][] row : memo) {
            for (int[] cells : row) {
                Arrays.fill(cells, -1);
            }
        }
        int without = lends(parts, p) ? parts - (1 << p) : parts;
        for (Deal d : deals) {
            yearGain[d.year][1] += dealGoes(d, without + (1 << p)) ? d.share(p) : 0;
            yearGain[d.year][2] += dealGoes(d, without) ? d.share(p) : 0;
        }
        return bestFrom(0, 0, 0);
    }

    int one(int p, int parts) {
        if (!isPerson(p) || !areParts(parts)) {
            return -1;
        }
        int value = reckonOne(p, parts, law);
        oneRow = new int[60];
        int[] state = {0, 0};
        for (int year = 0; year < 60; year++) {
            int what = 0;
            while (valueOf(year, state[0], state[1], what) != bestFrom(year, state[0], state[1])) {
                what++;
            }
            oneRow[year] = what;
            state = nextState(state[0], state[1], what);
        }
        return value;
    }

    int oneBy(int p, int parts, int n) {
        return isPerson(p) && areParts(parts) && n >= 0 && n <= 60 ? reckonOne(p, parts, n) : -1;
    }

    int oneIs(int year) {
        return oneRow == null || year < 0 || year > 59 ? -1 : oneRow[year];
    }

    // all ways to do the deals

    private List<Deal> byYear() {
        List<Deal> sorted = new ArrayList<>(deals);
        sorted.sort((a, b) -> a.year != b.year ? a.year - b.year : a.number - b.number);
        return sorted;
    }

    private int lawfulBest;

    int lawful() {
        if (deals.size() > 12) {
            return -1;
        }
        lawfulBest = -1;
        tryWays(byYear(), 0, new ArrayList<>(), new int[deals.size()], 0);
        return lawfulBest;
    }

    private void tryWays(List<Deal> order, int at, List<Done> book, int[] ways, int sum) {
        if (at == order.size()) {
            if (sum > lawfulBest) {
                lawfulBest = sum;
                lawfulWays = ways.clone();
            }
            return;
        }
        Deal d = order.get(at);
        ways[d.number] = 0;
        tryWays(order, at + 1, book, ways, sum);
        for (int turned = 0; turned <= 1; turned++) {
            if (wrong(book, d.number, turned) == 0) {
                List<Done> more = new ArrayList<>(book);
                put(more, d.number, turned);
                ways[d.number] = turned + 1;
                tryWays(order, at + 1, more, ways, sum + d.both());
            }
        }
    }

    int lawfulBy(int d) {
        return lawfulWays == null || d < 0 || d >= lawfulWays.length ? -1 : lawfulWays[d];
    }

    // lenders and meetings

    int fewest() {
        int best = -1;
        for (int set = 0; set < allParts(); set++) {
            boolean fits = true;
            for (int p = 0; p < people.size(); p++) {
                int me = p;
                int who = set;
                boolean deals1 = deals.stream().anyMatch(d -> d.has(me));
                boolean served = deals.stream().anyMatch(d -> d.borrower == me && lends(who, d.lender)
                        || d.either && d.lender == me && lends(who, d.borrower));
                fits &= lends(set, p) ? deals1 : !deals1 || served;
            }
            if (fits && (best < 0 || Integer.bitCount(set) < Integer.bitCount(best))) {
                best = set;
            }
        }
        return best;
    }

    private boolean pairsTold(String tape) {
        boolean told = tape.length() % 2 == 0 && tape.length() <= 40;
        for (int i = 0; told && i < tape.length(); i += 2) {
            told = isPerson(tape.charAt(i)) && isPerson(tape.charAt(i + 1)) && tape.charAt(i) != tape.charAt(i + 1);
        }
        return told;
    }

    private static boolean canBe(String tape, int leftOut, int parts) {
        for (int i = 0; i < tape.length() / 2; i++) {
            boolean out = (leftOut & 1 << i) != 0;
            if (!out && lends(parts, tape.charAt(2 * i)) == lends(parts, tape.charAt(2 * i + 1))) {
                return false;
            }
        }
        return true;
    }

    private static int met(String tape) {
        int bits = 0;
        for (char c : tape.toCharArray()) {
            bits |= 1 << c;
        }
        return bits;
    }

    int meet(String tape) {
        if (!pairsTold(tape)) {
            return -1;
        }
        int many = 0;
        for (int parts = 0; parts < allParts(); parts++) {
            many += (parts & ~met(tape)) == 0 && canBe(tape, 0, parts) ? 1 : 0;
        }
        return many;
    }

    int must(String tape, int what) {
        if (!pairsTold(tape) || tape.isEmpty() || what != 0 && what != 1) {
            return -1;
        }
        int least = Integer.numberOfTrailingZeros(met(tape));
        int always = -1;
        boolean any = false;
        for (int parts = 0; parts < allParts(); parts++) {
            if (lends(parts, least) && canBe(tape, 0, parts)) {
                any = true;
                always &= what == 0 ? parts : ~parts & allParts() - 1;
            }
        }
        return any ? always : -1;
    }

    int wrongly(String tape) {
        if (!pairsTold(tape) || tape.length() > 32) {
            return -1;
        }
        Map<Integer, Integer> bySize = new LinkedHashMap<>();
        for (int out = 0; out < 1 << tape.length() / 2; out++) {
            if (bySize.containsKey(Integer.bitCount(out))) {
                continue;
            }
            for (int parts = 0; parts < allParts(); parts++) {
                if (canBe(tape, out, parts)) {
                    bySize.putIfAbsent(Integer.bitCount(out), out);
                    break;
                }
            }
        }
        return bySize.get(bySize.keySet().stream().min(Integer::compare).get());
    }

    int between(int year) {
        if (year < 0 || year > 59) {
            return -1;
        }
        int bits = 0;
        for (int p = 0; p < people.size(); p++) {
            boolean lives = people.get(p).born <= year && year <= people.get(p).dies;
            if (!lives || whatIs(done, p, year) != 0) {
                continue;
            }
            for (Deal in : deals) {
                for (Deal out : deals) {
                    int lender = partner(in, p, year, false);
                    int borrower = partner(out, p, year, true);
                    boolean fits = lender >= 0 && borrower >= 0 && lender != borrower
                            && whatIs(done, lender, year) != 2 && whatIs(done, borrower, year) != 1;
                    bits |= fits ? 1 << p : 0;
                }
            }
        }
        return bits;
    }

    /** With whom p can do the DEAL of that year so that he lends (or borrows): NONE if he can't. */
    private int partner(Deal d, int p, int year, boolean lends) {
        if (d.year != year || wayDone(d.number) != 0) {
            return -1;
        }
        int me = lends ? d.lender : d.borrower;
        int other = lends ? d.borrower : d.lender;
        return me == p ? other : d.either && other == p ? me : -1;
    }

    int run(int seed) {
        if (deals.isEmpty()) {
            return -1;
        }
        done = new ArrayList<>();
        refused = 0;
        int x = seed;
        for (Deal d : byYear()) {
            x = x * 1103515245 + 12345;
            int draw = (x >>> 8) % 4;
            if (draw != 0 && does(d.number, draw == 1 && d.either ? 1 : 0) != 0) {
                refused++;
            }
        }
        return done.size();
    }

    boolean image(int k) {
        if (k != 0 && k != 1) {
            return false;
        }
        images.put(k, new Object[] {people, deals, law, List.copyOf(done)});
        return true;
    }

    @SuppressWarnings("unchecked")
    boolean restore(int k) {
        Object[] kept = images.get(k);
        if (kept == null) {
            return false;
        }
        people = (List<Person>) kept[0];
        deals = (List<Deal>) kept[1];
        law = (Integer) kept[2];
        done = new ArrayList<>((List<Done>) kept[3]);
        return true;
    }
}
