/** All that can be seen of an object without changing it: a refused call leaves it as it was. */
final class Look {
    private Look() {
    }

    interface Refused {
        boolean isRefused(LendTown x);
    }

    /** A TOWN of three PERSONS and three DEALS in which each of the latest answers is another than a new object's. */
    static LendTown busy() {
        LendTown x = Due.townOf("person a 0 59;person b 1 58;person c 2 57;law years 2;limit b 3;limit a 8;part c lends;part a lends;"
            + "deal d a c 5 9 0 either;deal e b a 5 8 0 either;deal f c b 6 7 0 either;");
        x.climb(0);
        x.rounds(0);
        x.one(0, 4);
        x.lawful();
        x.run(3);
        Due.book(x, "d;f turned;d;");
        Due.town(x, "person a 5 4;");
        Due.feed(x, "left");
        return x;
    }

    static String at(LendTown x) {
        StringBuilder seen = new StringBuilder();
        for (int what = 0; what < 5; what++) {
            put(seen, "count", x.count(what));
        }
        put(seen, "fault", x.fault());
        put(seen, "why", x.why());
        put(seen, "told", x.told());
        put(seen, "climbed", x.climbed());
        put(seen, "ended", x.ended(0));
        put(seen, "ended", x.ended(1));
        put(seen, "refused", x.refused());
        for (int year = 4; year < 7; year++) {
            put(seen, "oneIs", x.oneIs(year));
        }
        for (int d = 0; d < 3; d++) {
            put(seen, "lawfulBy", x.lawfulBy(d));
        }
        putTown(seen, x);
        return seen.toString();
    }

    private static void putTown(StringBuilder seen, LendTown x) {
        for (int p = 0; p < x.count(0); p++) {
            for (int what = 0; what < 4; what++) {
                put(seen, "person", x.person(p, what));
            }
            put(seen, "is", x.is(p, 5));
            put(seen, "is", x.is(p, 6));
            put(seen, "had", x.had(p));
        }
        for (int d = 0; d < x.count(1); d++) {
            for (int what = 0; what < 7; what++) {
                put(seen, "deal", x.deal(d, what));
            }
        }
        put(seen, "gain", x.gain(0));
    }

    private static void put(StringBuilder seen, String name, int answer) {
        seen.append(name).append(' ').append(answer).append("; ");
    }

    /** The call is refused by a busy object and by a new one, and changes nothing that can be seen. */
    static void unchanged(String call, Refused asked) {
        unchanged(call, busy(), asked);
        unchanged(call + " of a new object", new LendTown(), asked);
    }

    static void unchanged(String call, LendTown x, Refused asked) {
        String before = at(x);
        Due.yes(call + " is refused", asked.isRefused(x));
        String after = at(x);
        Due.yes(call + " leaves " + before + " as " + after, before.equals(after));
    }
}
