/** Events as the tests need them. */
final class Rinks {
    private Rinks() {
    }

    static OrdinalRink rink(int skaters, int judges) {
        OrdinalRink x = new OrdinalRink();
        x.event(skaters, judges);
        return x;
    }

    /** A judge's ordinals for the skaters 0 .. */
    static int[] row(int... ordinals) {
        return ordinals;
    }

    /** Marks that give these ordinals, a row a judge. */
    static void give(OrdinalRink x, int segment, int[]... rows) {
        for (int judge = 0; judge < rows.length; judge++) {
            for (int skater = 0; skater < rows[judge].length; skater++) {
                x.mark(segment, judge, skater, 50 - rows[judge][skater], 30);
            }
        }
    }

    /** Two skaters, three judges: all judges have the winner before the other one. */
    static void win(OrdinalRink x, int segment, int winner) {
        int[] row = {winner == 0 ? 1 : 2, winner == 0 ? 2 : 1};
        give(x, segment, row, row, row);
    }

    static void typeAll(OrdinalRink x, String line) {
        for (char c : line.toCharArray()) {
            Check.is("type " + c, 1, x.type(c) ? 1 : 0);
        }
    }

    static int checked(OrdinalRink x, int segment, String line) {
        typeAll(x, line);
        return x.check(segment);
    }

    static String pageOf(OrdinalRink x) {
        StringBuilder page = new StringBuilder();
        for (int p = 0; p < x.length(); p++) {
            page.append(x.charAt(p));
        }
        return page.toString();
    }
}
