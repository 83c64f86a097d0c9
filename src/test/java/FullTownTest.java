import java.util.Arrays;
import java.util.Random;

/** Towns and meetings of the greatest sizes told: ten persons, thirty deals, twelve lawful ones, sixteen pairs. */
public final class FullTownTest {
    private static final int PERSONS = 10;
    private static final int ALL = 1 << PERSONS;

    private final Random random;
    private final LendTown real = new LendTown();
    private final PlainTown plain = new PlainTown();

    private FullTownTest(long seed) {
        random = new Random(seed);
    }

    public static void main(String[] args) {
        for (int seed = 1; seed <= 25; seed++) {
            new FullTownTest(seed).manyDeals();
            new FullTownTest(100 + seed).lawfulOfTwelve();
            new FullTownTest(200 + seed).falseOfSixteen();
        }
        Due.end();
    }

    private int below(int n) {
        return random.nextInt(n);
    }

    private static String name(int p) {
        return "" + (char) ('a' + p);
    }

    private String people(int mostLimit) {
        StringBuilder text = new StringBuilder(below(3) == 0 ? "law years " + (1 + below(4)) + ";" : "");
        for (int p = 0; p < PERSONS; p++) {
            text.append("person ").append(name(p)).append(" 0 9;");
            if (below(2) == 0) {
                text.append("limit ").append(name(p)).append(' ').append(below(mostLimit + 1)).append(';');
            }
        }
        return text.toString();
    }

    private String deal(int d, int years, int mostGain) {
        int a = below(PERSONS);
        int b = (a + 1 + below(PERSONS - 1)) % PERSONS;
        return "deal " + name(d / 6) + name(d % 6) + " " + name(a) + " " + name(b) + " " + below(years) + " "
            + below(mostGain + 1) + " " + below(mostGain + 1) + (below(3) == 0 ? " either;" : ";");
    }

    private String town(int deals, int years, int mostGain, int mostLimit) {
        StringBuilder text = new StringBuilder(people(mostLimit));
        for (int d = 0; d < deals; d++) {
            text.append(deal(d, years, mostGain));
        }
        return text.toString();
    }

    private void tell(String text) {
        int lines = plain.town(text);
        Due.yes("the town has no fault: " + text, lines >= 0);
        Due.is("town()", lines, Due.town(real, text));
    }

    private void manyDeals() {
        tell(town(30, 2 + below(5), below(2) == 0 ? 2 : 9, 3));
        Due.is("thirty deals", 30, real.count(1));
        int[] gains = new int[ALL];
        int best = 0;
        for (int parts = 0; parts < ALL; parts++) {
            gains[parts] = plain.gain(parts);
            best = gains[parts] > gains[best] ? parts : best;
        }
        Due.is("best()", gains[best], real.best());
        Due.is("bestParts()", best, real.bestParts());
        for (int i = 0; i < 8; i++) {
            int v = gains[below(ALL)] + below(2);
            Due.is("above(" + v + ")", Arrays.stream(gains).filter(g -> g >= v).count(), real.above(v));
            climb(gains, below(ALL));
            ofOne(below(PERSONS), below(ALL));
        }
        rests();
        Due.is("fewest()", plain.fewest(), real.fewest());
        Due.is("lawful()", plain.lawful(), real.lawful());
    }

    private void climb(int[] gains, int from) {
        int here = from;
        int changes = 0;
        for (int p = 0; p < PERSONS; p++) {
            if (gains[here ^ 1 << p] > gains[here]) {
                here ^= 1 << p;
                changes++;
                p = -1;
            }
        }
        Due.is("climb(" + from + ")", here, real.climb(from));
        Due.is("climbed()", changes, real.climbed());
    }

    private void ofOne(int p, int parts) {
        Due.is("gain", plain.gain(parts), real.gain(parts));
        Due.is("price", plain.price(p, parts), real.price(p, parts));
        Due.is("loss", plain.loss(p, parts), real.loss(p, parts));
        Due.is("rounds", plain.rounds(parts), real.rounds(parts));
        Due.is("ended(0)", plain.ended(0), real.ended(0));
        Due.is("ended(1)", plain.ended(1), real.ended(1));
        Due.is("one", plain.one(p, parts), real.one(p, parts));
        for (int year = 0; year <= 10; year++) {
            Due.is("oneIs(" + year + ")", plain.oneIs(year), real.oneIs(year));
        }
    }

    private void rests() {
        int many = plain.rests(-1);
        Due.is("rests(-1)", many, real.rests(-1));
        for (int i = 0; i < Math.min(many, 20); i++) {
            Due.is("rests(" + i + ")", plain.rests(i), real.rests(i));
        }
        Due.is("the last of those at rest", plain.rests(many - 1), real.rests(many - 1));
        Due.is("one more than are at rest", -1, real.rests(many));
    }

    private void lawfulOfTwelve() {
        tell(town(12, 1 + below(6), below(2) == 0 ? 1 : 99, 2));
        Due.is("twelve deals", 12, real.count(1));
        Due.is("lawful()", plain.lawful(), real.lawful());
        for (int d = 0; d <= 12; d++) {
            Due.is("lawfulBy(" + d + ")", plain.lawfulBy(d), real.lawfulBy(d));
        }
    }

    private void falseOfSixteen() {
        tell(people(9));
        int[] pairs = new int[32];
        int among = 3 + below(PERSONS - 2);
        for (int i = 0; i < 32; i += 2) {
            pairs[i] = below(among);
            pairs[i + 1] = (pairs[i] + 1 + below(among - 1)) % among;
        }
        int fewest = (1 << 16) - 1;
        for (int left = 0; left < 1 << 16; left++) {
            if (Integer.bitCount(left) < Integer.bitCount(fewest) && canBe(pairs, left)) {
                fewest = left;
            }
        }
        Due.feed(real, Due.pairs(pairs));
        Due.is("wrongly()", fewest, real.wrongly());
    }

    /** By which group each is in, and whether he is there what the group's first is: a pair joins two groups. */
    private static boolean canBe(int[] pairs, int leftOut) {
        int[] group = new int[PERSONS];
        int[] side = new int[PERSONS];
        Arrays.setAll(group, p -> p);
        for (int i = 0; i < 16; i++) {
            int a = pairs[2 * i];
            int b = pairs[2 * i + 1];
            if ((leftOut >> i & 1) == 1) {
                continue;
            }
            if (group[a] == group[b] && side[a] == side[b]) {
                return false;
            }
            int old = group[b];
            int turn = 1 ^ side[a] ^ side[b];
            for (int p = 0; p < PERSONS && old != group[a]; p++) {
                if (group[p] == old) {
                    group[p] = group[a];
                    side[p] ^= turn;
                }
            }
        }
        return true;
    }
}
