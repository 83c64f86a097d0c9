import java.util.ArrayList;
import java.util.List;
import java.util.Random;

/** Random runs, by seeds, of the program beside the plain model. */
public final class ModelTest {
    private static final String[] NAMES = {"a", "bo", "cat", "dora", "ember", "fiddle", "gustavo", "h", "i", "jo", "k", "l"};
    private static final String[] ODD = {"person", "limit", "deal", "either", "law", "life", "years", "part", "lends",
        "borrows", "turned", ";", ".", "100", "60", "0", "5", "x", "abcdefgh", "a5", "5a", "A", "\t", "d0", "a", "-", "\u00e9"};

    /** So many that what is fed and asked besides stays within the calls that an object is promised for. */
    private static final int MOST_CALLS = 330;

    private final Random random;
    private final LendTown real = new LendTown();
    private final PlainTown plain = new PlainTown();
    private final StringBuilder log = new StringBuilder();
    private int calls = 0;

    private ModelTest(long seed) {
        random = new Random(seed);
        log.append("seed ").append(seed);
    }

    public static void main(String[] args) {
        int runs = args.length > 0 ? Integer.parseInt(args[0]) : 700;
        for (int seed = 1; seed <= runs; seed++) {
            new ModelTest(seed).go();
        }
        for (int seed = 1; seed <= runs; seed++) {
            new ModelTest(-seed).flows();
        }
        Due.end();
    }

    private int below(int n) {
        return random.nextInt(n);
    }

    private boolean chance(int percent) {
        return below(100) < percent;
    }

    private void same(String call, long want, long got) {
        calls++;
        if (want != got) {
            System.out.println(log);
        }
        Due.is(call, want, got);
    }

    private void go() {
        int towns = 1 + below(5);
        for (int i = 1; i <= towns; i++) {
            town(townText(chance(70) ? 4 : 10, chance(50) ? 6 : chance(70) ? 12 : 30));
            while (calls < MOST_CALLS * i / towns) {
                anyCall();
            }
        }
    }

    /** Many DEALS in few years under small limits: long paths. */
    private void flows() {
        List<String> words = new ArrayList<>();
        int n = 6 + below(5);
        for (int p = 0; p < n; p++) {
            add(words, "person", "" + (char) ('a' + p), "0", "9", ";", "limit", "" + (char) ('a' + p), "" + (1 + below(below(3) + 1)), ";");
        }
        int years = 1 + below(2);
        int half = n / 2;
        for (int d = 0; d < 20; d++) {
            String lender = "" + (char) ('a' + below(half));
            String borrower = "" + (char) ('a' + half + below(n - half));
            boolean told = chance(60);
            add(words, "deal", "d" + (char) ('a' + d), told ? lender : borrower, told ? borrower : lender, "" + below(years),
                "" + (90 + below(10)), "0");
            add(words, told ? new String[] {";"} : new String[] {"either", ";"});
        }
        town(joined(words));
        for (int i = 0; i < 6; i++) {
            int parts = i == 0 ? (1 << half) - 1 : below(1 << n);
            int p = below(n);
            same("gain(" + parts + ")", plain.gain(parts), real.gain(parts));
            same("price(" + p + ", " + parts + ")", plain.price(p, parts), real.price(p, parts));
            same("loss(" + p + ", " + parts + ")", plain.loss(p, parts), real.loss(p, parts));
        }
    }

    private void town(String text) {
        log.append(" | town ").append(text);
        Due.feed(real, text);
        same("tape", text.length(), real.count(4));
        same("town()", plain.town(text), real.town());
        same("fault()", plain.faultKind, real.fault());
        same("tape behind", 0, real.count(4));
        for (int p = 0; p < plain.people.size(); p++) {
            same("person born", plain.people.get(p).born, real.person(p, 0));
            same("person limit", plain.people.get(p).limit, real.person(p, 2));
        }
        same("count(0)", plain.people.size(), real.count(0));
        same("count(1)", plain.deals.size(), real.count(1));
        same("count(2)", plain.law, real.count(2));
        same("count(3)", plain.done.size(), real.count(3));
        same("told()", plain.told(), real.told());
    }

    private String townText(int persons, int deals) {
        List<String> words = new ArrayList<>();
        int n = 1 + below(persons);
        int[] born = new int[n];
        int[] dies = new int[n];
        int span = chance(30) ? 60 : chance(50) ? 12 : 4;
        for (int p = 0; p < n; p++) {
            born[p] = chance(60) ? 0 : below(span);
            dies[p] = chance(60) ? 59 : born[p] + below(60 - born[p]);
            add(words, "person", NAMES[p], "" + born[p], "" + dies[p], ";");
        }
        if (chance(60)) {
            add(words, "law");
            add(words, chance(30) ? new String[] {"life"} : new String[] {"years", "" + (1 + below(chance(60) ? 5 : 60))});
            add(words, ";");
        }
        for (int p = 0; p < n; p++) {
            if (chance(50)) {
                add(words, "limit", NAMES[p], "" + (chance(80) ? below(4) : below(10)), ";");
            }
            if (chance(40)) {
                add(words, "part", NAMES[p], chance(60) ? "lends" : "borrows", ";");
            }
        }
        int m = n < 2 ? 0 : below(deals + 1);
        int most = chance(50) ? 100 : 4;
        for (int d = 0; d < m; d++) {
            int a = below(n);
            int b = below(n);
            int from = Math.max(born[a], born[b]);
            int to = Math.min(dies[a], dies[b]);
            if (a == b || from > to) {
                continue;
            }
            int year = from + below(Math.min(span, to - from + 1));
            add(words, "deal", "d" + (char) ('a' + d / 26) + (char) ('a' + d % 26), NAMES[a], NAMES[b], "" + year,
                "" + below(most), "" + below(most));
            add(words, chance(50) ? new String[] {"either", ";"} : new String[] {";"});
        }
        if (chance(20)) {
            spoil(words);
        }
        return joined(words);
    }

    private static void add(List<String> words, String... more) {
        words.addAll(List.of(more));
    }

    private void spoil(List<String> words) {
        int changes = 1 + below(2);
        for (int i = 0; i < changes && !words.isEmpty(); i++) {
            int at = below(words.size());
            switch (below(4)) {
                case 0 -> words.remove(at);
                case 1 -> words.add(at, ODD[below(ODD.length)]);
                case 2 -> words.set(at, ODD[below(ODD.length)]);
                default -> words.addAll(at, List.copyOf(words.subList(at, Math.min(words.size(), at + below(12)))));
            }
        }
    }

    private String joined(List<String> words) {
        StringBuilder text = new StringBuilder();
        String last = ";";
        boolean wide = chance(10);
        for (String word : words) {
            boolean tight = last.equals(";") || word.equals(";");
            if (!tight || wide || chance(10)) {
                text.append(chance(80) ? ' ' : '\n');
            }
            text.append(word);
            last = word;
        }
        while (chance(10)) {
            text.append(' ');
        }
        return text.substring(0, Math.min(940, text.length()));
    }

    private String bookText() {
        List<String> words = new ArrayList<>();
        int lines = below(chance(80) ? 8 : 45);
        List<PlainTown.Deal> order = new ArrayList<>(plain.deals);
        order.sort((a, b) -> a.year - b.year);
        for (PlainTown.Deal d : order) {
            if (lines-- > 0 && chance(70)) {
                add(words, d.name);
                add(words, d.either && chance(50) ? new String[] {"turned", ";"} : new String[] {";"});
            }
        }
        for (int i = 0; i < lines && !order.isEmpty() && chance(50); i++) {
            add(words, order.get(below(order.size())).name, ";");
        }
        if (chance(30)) {
            spoil(words);
        }
        return joined(words);
    }

    private void book() {
        String text = bookText();
        log.append(" | book ").append(text);
        Due.feed(real, text);
        same("book()", plain.book(text), real.book());
        same("fault()", plain.faultKind, real.fault());
        same("why()", plain.why, real.why());
        same("tape behind", 0, real.count(4));
        sameBook();
    }

    private void sameBook() {
        same("done", plain.done.size(), real.count(3));
        for (int d = 0; d < plain.deals.size(); d++) {
            same("deal done", plain.wayDone(d), real.deal(d, 6));
        }
    }

    private String meetingsText() {
        StringBuilder text = new StringBuilder();
        int pairs = below(chance(90) ? 7 : 23);
        int n = Math.max(1, plain.people.size());
        for (int i = 0; i < pairs; i++) {
            int a = below(n);
            int b = n > 1 ? (a + 1 + below(n - 1)) % n : 0;
            text.append((char) a).append((char) b);
        }
        if (chance(5)) {
            text.append((char) below(256));
        }
        if (chance(5)) {
            text.append((char) below(256)).append((char) below(n));
        }
        return text.toString();
    }

    private int person() {
        return below(plain.people.size() + 2) - (chance(5) ? 1 : 0);
    }

    private int parts() {
        return chance(97) ? below(1 << plain.people.size()) : below(2) == 0 ? -1 - below(9) : (1 << plain.people.size()) + below(3);
    }

    /** The model looks at every PARTS of all: only in small towns. */
    private boolean small() {
        return plain.people.size() <= 5 && plain.deals.size() <= 12;
    }

    private void anyCall() {
        switch (below(12)) {
            case 0, 1, 2 -> bookCall();
            case 3 -> book();
            case 4, 5, 6 -> partsCall();
            case 7, 8 -> wholeCall();
            case 9 -> oneCall();
            case 10 -> meetingsCall();
            default -> stateCall();
        }
    }

    private void bookCall() {
        int d = below(plain.deals.size() + 1) - (chance(5) ? 1 : 0);
        int turned = chance(95) ? below(2) : below(5) - 2;
        int p = person();
        int year = chance(95) ? below(60) : below(2) * 61 - 1;
        log.append(" | does ").append(d).append(' ').append(turned);
        same("does(" + d + ", " + turned + ")", plain.does(d, turned), real.does(d, turned));
        if (chance(20)) {
            same("undo()", plain.undo(), real.undo());
        }
        same("is(" + p + ", " + year + ")", plain.is(p, year), real.is(p, year));
        same("may(" + turned + ")", plain.may(turned), real.may(turned));
        same("had(" + p + ")", plain.had(p), real.had(p));
        same("between(" + year + ")", plain.between(year), real.between(year));
        if (plain.isDeal(d)) {
            int that = plain.deals.get(d).year;
            same("between(" + that + ")", plain.between(that), real.between(that));
        }
    }

    private void partsCall() {
        int p = person();
        int parts = parts();
        same("gain(" + parts + ")", plain.gain(parts), real.gain(parts));
        same("goes(" + parts + ")", plain.goes(parts), real.goes(parts));
        same("price(" + p + ", " + parts + ")", plain.price(p, parts), real.price(p, parts));
        same("loss(" + p + ", " + parts + ")", plain.loss(p, parts), real.loss(p, parts));
        same("own(" + p + ", " + parts + ")", plain.own(p, parts), real.own(p, parts));
        same("rounds(" + parts + ")", plain.rounds(parts), real.rounds(parts));
        int what = below(4) - 1;
        same("ended(" + what + ")", plain.ended(what), real.ended(what));
    }

    private void wholeCall() {
        same("fewest()", plain.fewest(), real.fewest());
        same("told()", plain.told(), real.told());
        int k = below(6) - 1;
        if (plain.people.size() <= 6) {
            same("rests(" + k + ")", plain.rests(k), real.rests(k));
        }
        if (plain.deals.size() <= 8 || plain.deals.size() > 12) {
            same("lawful()", plain.lawful(), real.lawful());
            int d = below(14) - 1;
            same("lawfulBy(" + d + ")", plain.lawfulBy(d), real.lawfulBy(d));
        }
        if (small()) {
            same("best()", plain.best(), real.best());
            same("bestParts()", plain.bestParts(), real.bestParts());
            int v = plain.best() - below(20);
            same("above(" + v + ")", plain.above(v), real.above(v));
            int parts = parts();
            same("climb(" + parts + ")", plain.climb(parts), real.climb(parts));
            same("climbed()", plain.climbed, real.climbed());
        }
    }

    private void oneCall() {
        int p = person();
        int parts = parts();
        int n = chance(90) ? below(61) : below(2) * 62 - 1;
        same("one(" + p + ", " + parts + ")", plain.one(p, parts), real.one(p, parts));
        same("oneBy(" + p + ", " + parts + ", " + n + ")", plain.oneBy(p, parts, n), real.oneBy(p, parts, n));
        for (int year = below(9) - 1; year <= 60; year += 1 + below(9)) {
            same("oneIs(" + year + ") behind one(" + p + ", " + parts + ")", plain.oneIs(year), real.oneIs(year));
        }
    }

    private void meetingsCall() {
        String text = meetingsText();
        Due.feed(real, text);
        same("meet()", plain.meet(text), real.meet());
        int what = chance(90) ? below(2) : below(6) - 2;
        Due.feed(real, text);
        same("must(" + what + ")", plain.must(text, what), real.must(what));
        same("tape behind", 0, real.count(4));
        if (text.length() <= 22 || text.length() > 32) {
            Due.feed(real, text);
            same("wrongly()", plain.wrongly(text), real.wrongly());
        }
        same("tape behind", 0, real.count(4));
    }

    private void stateCall() {
        int k = chance(90) ? below(2) : below(6) - 2;
        int seed = random.nextInt();
        log.append(" | state ").append(k).append(' ').append(seed);
        switch (below(3)) {
            case 0 -> same("image(" + k + ")", plain.image(k) ? 1 : 0, real.image(k) ? 1 : 0);
            case 1 -> same("restore(" + k + ")", plain.restore(k) ? 1 : 0, real.restore(k) ? 1 : 0);
            default -> same("run(" + seed + ")", plain.run(seed), real.run(seed));
        }
        same("refused()", plain.refused, real.refused());
        sameBook();
        same("count(0)", plain.people.size(), real.count(0));
        same("count(1)", plain.deals.size(), real.count(1));
        same("count(2)", plain.law, real.count(2));
    }
}
