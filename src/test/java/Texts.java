/** What the tests of texts share: texts with a mark at the place of a FAULT, PERSONS and DEALS in numbers. */
final class Texts {
    static final String AB = "person a 0 59;person b 0 59;";
    static final String ABC = AB + "person c 0 59;";
    static final String ABCD = ABC + "person d 0 59;";

    private Texts() {
    }

    /** The text is a TOWN of so many LINES. */
    static void isTown(String text, int lines) {
        LendTown x = new LendTown();
        Due.is("town of '" + text + "'", lines, Due.town(x, text));
        Due.is("its fault", 0, x.fault());
        Due.is("tape behind it", 0, x.count(4));
    }

    /** The text without its mark ^ has a FAULT of that kind at the mark: an older TOWN and its DEALS done stay. */
    static void townFault(String marked, int kind) {
        int place = marked.indexOf('^');
        townFault(marked.substring(0, place) + marked.substring(place + 1), place, kind);
    }

    static void townFault(String text, int place, int kind) {
        LendTown x = Due.townOf("person o 1 58;person p 2 57;limit p 7;part p lends;law years 4;deal q o p 3 5 6;");
        x.does(0, 0);
        Due.is("town of '" + text + "'", -1 - place, Due.town(x, text));
        Due.is("its fault", kind, x.fault());
        int[] counts = {2, 1, 4, 1, 0};
        for (int what = 0; what < counts.length; what++) {
            Due.is("behind '" + text + "' count(" + what + ")", counts[what], x.count(what));
        }
        Due.is("behind it the limit", 7, x.person(1, 2));
        Due.is("behind it told()", 2, x.told());
        Due.is("behind it the year", 3, x.deal(0, 2));
        Due.is("behind it deal(0, 6)", 1, x.deal(0, 6));
    }

    static String blanks(int n) {
        return " ".repeat(Math.max(0, n));
    }

    /** The text with blanks behind it up to n bytes. */
    static String upTo(int n, String text) {
        return text + blanks(n - text.length());
    }

    /** n PERSONS a, b, .. who live in all years. */
    static String persons(int n) {
        StringBuilder text = new StringBuilder();
        for (int i = 0; i < n; i++) {
            text.append("person ").append((char) ('a' + i)).append(" 0 59;");
        }
        return text.toString();
    }

    /** n DEALS of a year in which a lends to b, each with gains 1 and 1. */
    static String deals(int n, int year) {
        StringBuilder text = new StringBuilder();
        for (int i = 0; i < n; i++) {
            text.append("deal x").append((char) ('a' + i % 26)).append((char) ('a' + i / 26)).append(" a b " + year + " 1 1;");
        }
        return text.toString();
    }

    /** The limits of all n PERSONS are that. */
    static String limits(int n, int limit) {
        StringBuilder text = new StringBuilder();
        for (int i = 0; i < n; i++) {
            text.append("limit ").append((char) ('a' + i)).append(' ').append(limit).append(';');
        }
        return text.toString();
    }
}
