/** Each promise of the document by itself: ordinary inputs, edges, wrong inputs. */
public final class PromisesTest {
    private static final int NONE = OrdinalRink.NONE;
    private static final int SHORT = OrdinalRink.SHORT;
    private static final int FREE = OrdinalRink.FREE;
    private static final int[] NO_INDEX = {-1, 10, Integer.MIN_VALUE, Integer.MAX_VALUE};

    /** Ordinals of judges 0, 1, 2 (rows) for skaters 0 .. 3, with which STEP 4 parts 0 and 1. */
    private static final int[][] FOUR = {{1, 2, 3, 4}, {2, 1, 3, 4}, {3, 4, 1, 2}};

    public static void main(String[] args) {
        newObject();
        event();
        eventForgetsAll();
        segment();
        mark();
        deduct();
        strike();
        withdraw();
        withdrawAndPublished();
        ordinal();
        ordinalOfStarters();
        placing();
        placingEdges();
        step();
        needed();
        neededWithDeductions();
        neededChangesNothing();
        neededNone();
        publish();
        publishedIsClosed();
        total();
        rank();
        rankByLastFree();
        proof();
        type();
        check();
        checkFaults();
        lengthAndCharAt();
        Check.end();
    }

    private static void newObject() {
        OrdinalRink x = new OrdinalRink();
        Check.is("1: length", 0, x.length());
        Check.is("1: charAt", ' ', x.charAt(0));
        Check.is("1: rank", NONE, x.rank(0));
        Check.is("1: total", 0, x.total(1));
        for (int s = 0; s < 3; s++) {
            int segment = s;
            Check.is("1: text is empty", -1, x.check(s));
            Check.is("1: panel", 3, x.strike(s, 2, false));
            Check.is("1: deduction", 0, x.deduct(s, 1, 0, 0));
            Check.is("1: not marked", NONE, x.ordinal(s, 2, 1));
            Check.is("1: not complete", NONE, x.placing(s, 1, 4));
            Check.badState("1: not complete", () -> x.publish(segment));
            Check.outOfBounds("1: two skaters", () -> x.ordinal(segment, 0, 2));
            Check.outOfBounds("1: three judges", () -> x.ordinal(segment, 3, 0));
        }
        Check.is("1: not withdrawn", 3, x.withdraw(1, 3));
        firstSegmentsOf("1", x);
    }

    /** Segment 0 is SHORT with 5, the others FREE with 10; ends with all of them PUBLISHED. */
    private static void firstSegmentsOf(String promise, OrdinalRink x) {
        int before = 0;
        for (int s = 0; s < 3; s++) {
            for (int judge = 0; judge < 3; judge++) {
                x.mark(s, judge, 0, 30, 20);
                x.mark(s, judge, 1, 20, 30);
            }
            Check.is(promise + ": kind of " + s, s == 0 ? 1 : 2, x.ordinal(s, 0, 0));
            x.publish(s);
            Check.is(promise + ": factor of " + s, s == 0 ? 10 : 40, x.total(0) - before);
            before = x.total(0);
        }
    }

    private static void event() {
        OrdinalRink x = new OrdinalRink();
        for (int[] sizes : new int[][] {{2, 3}, {10, 9}, {2, 9}, {10, 3}, {5, 7}}) {
            x.event(sizes[0], sizes[1]);
            Check.is("2: last skater", 0, x.total(sizes[0] - 1));
            Check.is("2: last judge", NONE, x.ordinal(0, sizes[1] - 1, 0));
            Check.is("2: panel", sizes[1], x.strike(1, 0, false));
            Check.outOfBounds("2: skater behind the last", () -> x.total(sizes[0]));
            Check.outOfBounds("2: judge behind the last", () -> x.ordinal(0, sizes[1], 0));
        }
        Rinks.win(x, 0, 1);
        int[][] wrong = {{1, 3}, {11, 3}, {2, 2}, {2, 10}, {0, 0}, {-1, 5}, {5, -1},
            {Integer.MAX_VALUE, 5}, {5, Integer.MIN_VALUE}};
        for (int[] sizes : wrong) {
            Check.badArgument("2: event(" + sizes[0] + ", " + sizes[1] + ")", () -> x.event(sizes[0], sizes[1]));
        }
        Check.is("2: a refused event changes nothing", 0, x.total(4));
        for (int k = 2; k < 5; k++) {
            x.withdraw(k, 0);
        }
        Check.is("2: nor marks", 2, x.ordinal(0, 0, 0));
    }

    private static void eventForgetsAll() {
        OrdinalRink x = Rinks.rink(4, 4);
        for (int s = 0; s < 3; s++) {
            x.segment(s, s == 0 ? FREE : SHORT, 17);
            Rinks.give(x, s, FOUR[0], FOUR[1], FOUR[2]);
            x.deduct(s, 1, 0, 7);
            x.deduct(s, 1, 1, 9);
            x.strike(s, 3, true);
        }
        x.withdraw(0, 1);
        x.withdraw(1, 0);
        x.publish(0);
        x.publish(2);
        int length = x.proof(0, 2);
        Rinks.typeAll(x, "1 2 ");
        x.event(2, 4);
        Check.is("2: the page stays", length, x.length());
        Check.is("2: the text stays", -5, x.check(0));
        Check.is("2: nothing published", NONE, x.rank(0));
        Check.is("2: no total", 0, x.total(0));
        Check.is("2: not withdrawn", 3, x.withdraw(0, 3));
        Check.is("2: not withdrawn", 3, x.withdraw(1, 3));
        for (int s = 0; s < 3; s++) {
            Check.is("2: no marks", NONE, x.ordinal(s, 0, 0));
            Check.is("2: nobody struck", 4, x.strike(s, 0, false));
            Check.is("2: no deduction", 0, x.deduct(s, 1, 0, 0));
            Check.is("2: no deduction", 0, x.deduct(s, 1, 1, 0));
            Check.is("2: struck anew", 3, x.strike(s, 3, true));
        }
        firstSegmentsOf("2", x);
    }

    private static void segment() {
        OrdinalRink x = new OrdinalRink();
        for (int judge = 0; judge < 3; judge++) {
            x.mark(1, judge, 0, 30, 20);
            x.mark(1, judge, 1, 20, 30);
        }
        Check.is("3: FREE", 2, x.ordinal(1, 0, 0));
        x.segment(1, SHORT, 1);
        Check.is("3: SHORT", 1, x.ordinal(1, 0, 0));
        for (int wrong : new int[] {-1, 3, Integer.MAX_VALUE, Integer.MIN_VALUE}) {
            Check.outOfBounds("3: no segment, first of all", () -> x.segment(wrong, 2, 0));
        }
        for (int wrong : new int[] {-1, 2, 5}) {
            Check.badArgument("3: no kind " + wrong, () -> x.segment(1, wrong, 5));
        }
        for (int wrong : new int[] {0, 21, -5}) {
            Check.badArgument("3: no factor " + wrong, () -> x.segment(1, FREE, wrong));
        }
        Check.is("3: kind as before", 1, x.ordinal(1, 0, 0));
        x.publish(1);
        Check.is("3: factor 1", 2, x.total(0));
        Check.badState("3: published", () -> x.segment(1, FREE, 10));
        Check.badArgument("3: argument before state", () -> x.segment(1, FREE, 21));
        Check.badArgument("3: argument before state", () -> x.segment(1, 2, 1));
        Check.is("3: still factor 1", 2, x.total(0));
        Rinks.win(x, 2, 1);
        x.segment(2, FREE, 20);
        x.publish(2);
        Check.is("3: factor 20", 2 + 20 * 4, x.total(0));
    }

    private static void mark() {
        OrdinalRink x = Rinks.rink(2, 3);
        x.mark(2, 1, 0, 0, 0);
        Check.is("4: not all marked", NONE, x.ordinal(2, 1, 0));
        x.mark(2, 1, 1, 60, 60);
        Check.is("4: 0 0 behind 60 60", 2, x.ordinal(2, 1, 0));
        x.mark(2, 1, 0, 60, 60);
        Check.is("4: in place of the one before", 1, x.ordinal(2, 1, 0));
        Check.is("4: no other judge", NONE, x.ordinal(2, 0, 0));
        Check.is("4: no other segment", NONE, x.ordinal(1, 1, 0));
        for (int wrong : new int[] {-1, 61, Integer.MAX_VALUE, Integer.MIN_VALUE}) {
            Check.badArgument("4: first " + wrong, () -> x.mark(2, 1, 0, wrong, 0));
            Check.badArgument("4: second " + wrong, () -> x.mark(2, 1, 0, 0, wrong));
            Check.outOfBounds("4: segment " + wrong, () -> x.mark(wrong, 0, 0, 61, 0));
            Check.outOfBounds("4: judge " + wrong, () -> x.mark(0, wrong, 0, 61, 0));
            Check.outOfBounds("4: skater " + wrong, () -> x.mark(0, 0, wrong, 0, 61));
        }
        Check.outOfBounds("4: segment 3", () -> x.mark(3, 0, 0, 0, 0));
        Check.outOfBounds("4: judge 3", () -> x.mark(0, 3, 0, 0, 0));
        Check.outOfBounds("4: skater 2", () -> x.mark(0, 0, 2, 0, 0));
        Check.is("4: refused marks change nothing", 1, x.ordinal(2, 1, 0));
        Rinks.win(x, 0, 0);
        x.publish(0);
        Check.badState("4: published", () -> x.mark(0, 0, 0, 1, 1));
        Check.badArgument("4: argument before state", () -> x.mark(0, 0, 0, 1, 61));
        Check.outOfBounds("4: index before state", () -> x.mark(0, 0, 2, 1, 1));
        Check.is("4: as published", 1, x.ordinal(0, 0, 0));
        x.withdraw(1, 1);
        x.mark(1, 0, 1, 5, 5);
        x.mark(1, 0, 0, 4, 4);
        Check.is("4: a mark for one who does not start", 1, x.ordinal(1, 0, 0));
        x.withdraw(1, 3);
        Check.is("4: it counts when it starts again", 2, x.ordinal(1, 0, 0));
    }

    private static void deduct() {
        OrdinalRink x = Rinks.rink(2, 3);
        for (int judge = 0; judge < 3; judge++) {
            x.mark(1, judge, 0, 10, 40);
            x.mark(1, judge, 1, 30, 15);
        }
        Check.is("5: what was, 0", 0, x.deduct(1, 0, 1, 5));
        Check.is("5: 45 each, the greater second", 1, x.ordinal(1, 2, 0));
        Check.is("5: what was, 5", 5, x.deduct(1, 0, 1, 6));
        Check.is("5: in place of what was", 2, x.ordinal(1, 2, 0));
        Check.is("5: the first is another one", 0, x.deduct(1, 0, 0, 60));
        Check.is("5: the second is as told", 6, x.deduct(1, 0, 1, 0));
        x.deduct(1, 1, 0, 20);
        Check.is("5: 0 40 before 10 15, no less than 0", 1, x.ordinal(1, 0, 0));
        Check.is("5: what was, 60", 60, x.deduct(1, 0, 0, 0));
        Check.is("5: no other segment", 0, x.deduct(2, 1, 0, 0));
        for (int wrong : new int[] {-1, 2, Integer.MIN_VALUE, Integer.MAX_VALUE}) {
            Check.outOfBounds("5: which " + wrong, () -> x.deduct(1, 0, wrong, 61));
        }
        for (int wrong : NO_INDEX) {
            Check.outOfBounds("5: segment " + wrong, () -> x.deduct(wrong, 0, 0, 61));
            Check.outOfBounds("5: skater " + wrong, () -> x.deduct(0, wrong, 0, 61));
        }
        Check.outOfBounds("5: skater 2", () -> x.deduct(0, 2, 0, 0));
        Check.badArgument("5: 61", () -> x.deduct(1, 1, 0, 61));
        Check.badArgument("5: -1", () -> x.deduct(1, 1, 0, -1));
        x.publish(1);
        Check.badState("5: published", () -> x.deduct(1, 1, 0, 20));
        Check.badArgument("5: argument before state", () -> x.deduct(1, 1, 0, 61));
        Check.outOfBounds("5: index before state", () -> x.deduct(1, 1, 2, 20));
        Check.is("5: as published", 1, x.ordinal(1, 0, 0));
    }

    private static void strike() {
        OrdinalRink x = Rinks.rink(2, 5);
        Check.is("6: one struck", 4, x.strike(1, 4, true));
        Check.is("6: struck already", 4, x.strike(1, 4, true));
        Check.is("6: two struck", 3, x.strike(1, 0, true));
        Check.badState("6: fewer than 3", () -> x.strike(1, 1, true));
        Check.is("6: struck already, 3 are left", 3, x.strike(1, 4, true));
        Check.is("6: another segment", 5, x.strike(2, 1, false));
        Rinks.give(x, 1, new int[0], new int[] {1, 2}, new int[] {1, 2}, new int[] {2, 1});
        Check.is("6: the panel alone", 2, x.placing(1, 0, 1));
        Check.is("6: the panel alone, ALL", 4, x.placing(1, 0, 3));
        Check.is("6: back in it", 4, x.strike(1, 0, false));
        Check.is("6: not complete with it", NONE, x.placing(1, 0, 1));
        x.mark(1, 0, 0, 1, 1);
        x.mark(1, 0, 1, 2, 2);
        Check.is("6: complete, two of four have 1", 2, x.placing(1, 0, 0));
        for (int wrong : NO_INDEX) {
            Check.outOfBounds("6: segment " + wrong, () -> x.strike(wrong, 0, true));
            Check.outOfBounds("6: judge " + wrong, () -> x.strike(0, wrong, true));
        }
        Check.outOfBounds("6: segment 3", () -> x.strike(3, 0, false));
        Check.outOfBounds("6: judge 5", () -> x.strike(0, 5, false));
        x.publish(1);
        Check.badState("6: published", () -> x.strike(1, 0, true));
        Check.badState("6: published, and nothing would change", () -> x.strike(1, 0, false));
        Check.outOfBounds("6: index before state", () -> x.strike(1, 5, true));
        Check.is("6: as published", 4, x.placing(1, 0, 1));
        OrdinalRink three = new OrdinalRink();
        Check.badState("6: three judges", () -> three.strike(0, 0, true));
        Check.is("6: all three", 3, three.strike(0, 0, false));
    }

    private static void withdraw() {
        OrdinalRink x = Rinks.rink(3, 3);
        for (int s = 0; s < 3; s++) {
            Rinks.give(x, s, new int[] {1, 2, 3}, new int[] {1, 2, 3}, new int[] {1, 2, 3});
        }
        int[] told = {2, 1, 0, 0, 3, 1, 3};
        int before = 3;
        for (int from : told) {
            Check.is("7: what was told before", before, x.withdraw(0, from));
            for (int s = 0; s < 3; s++) {
                boolean starts = s < from;
                Check.is("7: from " + from + ", segment " + s, starts ? 2 : NONE, x.placing(s, 0, 4));
                Check.is("7: the next one", starts ? 4 : 2, x.placing(s, 1, 4));
            }
            before = from;
        }
        for (int wrong : NO_INDEX) {
            Check.outOfBounds("7: skater " + wrong, () -> x.withdraw(wrong, 4));
        }
        Check.outOfBounds("7: skater 3", () -> x.withdraw(3, 0));
        for (int wrong : new int[] {-1, 4, Integer.MAX_VALUE, Integer.MIN_VALUE}) {
            Check.badArgument("7: segment " + wrong, () -> x.withdraw(0, wrong));
        }
        Check.is("7: as before", 3, x.withdraw(0, 3));
        Check.is("7: another skater", 3, x.withdraw(2, 3));
    }

    private static void withdrawAndPublished() {
        OrdinalRink x = Rinks.rink(3, 3);
        for (int s = 0; s < 3; s++) {
            Rinks.give(x, s, new int[] {1, 2, 3}, new int[] {1, 2, 3}, new int[] {1, 2, 3});
        }
        x.withdraw(2, 1);
        x.publish(1);
        Check.badState("7: a published start", () -> x.withdraw(0, 1));
        Check.badState("7: a published start", () -> x.withdraw(0, 0));
        Check.is("7: behind it", 3, x.withdraw(0, 2));
        Check.is("7: and again", 2, x.withdraw(0, 3));
        Check.badState("7: it did not start", () -> x.withdraw(2, 2));
        Check.badState("7: it did not start", () -> x.withdraw(2, 3));
        Check.badArgument("7: argument before state", () -> x.withdraw(2, 4));
        Check.outOfBounds("7: index before state", () -> x.withdraw(3, 1));
        Check.is("7: before it", 1, x.withdraw(2, 0));
        Check.is("7: the same", 0, x.withdraw(2, 0));
        Check.is("7: refused ones changed nothing", 0, x.withdraw(2, 1));
        x.publish(0);
        Check.badState("7: a published start in 0", () -> x.withdraw(2, 0));
    }

    private static void ordinal() {
        OrdinalRink x = Rinks.rink(5, 3);
        int[][] marks = {{30, 30}, {20, 40}, {40, 20}, {31, 30}, {30, 30}};
        for (int s = 0; s < 2; s++) {
            for (int k = 0; k < 5; k++) {
                Check.is("8: not all marked", NONE, x.ordinal(s, 1, 0));
                x.mark(s, 1, k, marks[k][0], marks[k][1]);
            }
        }
        int[][] due = {{3, 5, 2, 1, 3}, {3, 2, 5, 1, 3}};
        for (int s = 0; s < 2; s++) {
            for (int k = 0; k < 5; k++) {
                Check.is("8: segment " + s + ", skater " + k, due[s][k], x.ordinal(s, 1, k));
                Check.is("8: another judge", NONE, x.ordinal(s, 0, k));
            }
        }
        x.mark(1, 1, 3, 60, 1);
        x.mark(1, 1, 1, 0, 60);
        Check.is("8: the sum goes before the second, 61", 1, x.ordinal(1, 1, 3));
        Check.is("8: the sum goes before the second, 60", 2, x.ordinal(1, 1, 1));
        x.mark(0, 1, 3, 1, 60);
        x.mark(0, 1, 1, 60, 0);
        Check.is("8: the sum goes before the first, 61", 1, x.ordinal(0, 1, 3));
        Check.is("8: the sum goes before the first, 60", 2, x.ordinal(0, 1, 1));
        for (int wrong : NO_INDEX) {
            Check.outOfBounds("8: segment " + wrong, () -> x.ordinal(wrong, 0, 0));
            Check.outOfBounds("8: judge " + wrong, () -> x.ordinal(0, wrong, 0));
            Check.outOfBounds("8: skater " + wrong, () -> x.ordinal(0, 0, wrong));
        }
        Check.outOfBounds("8: segment 3", () -> x.ordinal(3, 0, 0));
        Check.outOfBounds("8: judge 3", () -> x.ordinal(0, 3, 0));
        Check.outOfBounds("8: skater 5", () -> x.ordinal(0, 0, 5));
    }

    private static void ordinalOfStarters() {
        OrdinalRink x = Rinks.rink(3, 4);
        x.mark(1, 3, 0, 9, 9);
        x.mark(1, 3, 1, 8, 8);
        x.strike(1, 3, true);
        Check.is("8: one starter is not marked", NONE, x.ordinal(1, 3, 1));
        x.withdraw(2, 0);
        Check.is("8: struck, and one withdrawn", 2, x.ordinal(1, 3, 1));
        Check.is("8: does not start", NONE, x.ordinal(1, 3, 2));
        x.withdraw(0, 1);
        Check.is("8: starters alone count", 1, x.ordinal(1, 3, 1));
        x.deduct(1, 1, 0, 20);
        x.deduct(1, 0, 1, 2);
        x.withdraw(0, 3);
        Check.is("8: deductions are taken", 2, x.ordinal(1, 3, 1));
        x.deduct(1, 0, 0, 9);
        Check.is("8: 0 7 behind 0 8", 1, x.ordinal(1, 3, 1));
    }

    private static void placing() {
        OrdinalRink x = Rinks.rink(4, 3);
        Rinks.give(x, 1, FOUR);
        int[][] due = {{2, 2, 3, 6, 2}, {2, 2, 3, 7, 4}, {3, 3, 7, 7, 6}, {4, 3, 10, 10, 8}};
        for (int k = 0; k < 4; k++) {
            for (int what = 0; what < 5; what++) {
                Check.is("9: skater " + k + ", " + what, due[k][what], x.placing(1, k, what));
                Check.is("9: another segment", NONE, x.placing(2, k, what));
            }
        }
        for (int wrong : new int[] {-1, 5, Integer.MAX_VALUE, Integer.MIN_VALUE}) {
            Check.outOfBounds("9: what " + wrong, () -> x.placing(1, 0, wrong));
            Check.outOfBounds("9: what, not complete", () -> x.placing(0, 0, wrong));
            Check.outOfBounds("9: segment " + wrong, () -> x.placing(wrong, 0, 0));
            Check.outOfBounds("9: skater " + wrong, () -> x.placing(1, wrong, 0));
        }
        Check.outOfBounds("9: segment 3", () -> x.placing(3, 0, 0));
        Check.outOfBounds("9: skater 4", () -> x.placing(1, 4, 0));
        x.withdraw(0, 0);
        int[] places = {NONE, 2, 4, 6};
        for (int k = 0; k < 4; k++) {
            Check.is("9: the first is withdrawn", places[k], x.placing(1, k, 4));
        }
        x.publish(1);
        Check.is("9: published", 4, x.placing(1, 2, 4));
    }

    private static void placingEdges() {
        OrdinalRink x = Rinks.rink(3, 4);
        int[] equal = {1, 1, 1};
        Rinks.give(x, 0, equal, equal, equal, equal);
        for (int k = 0; k < 3; k++) {
            Check.is("9: three are tied", 4, x.placing(0, k, 4));
            Check.is("9: all have 1", 4, x.placing(0, k, 2));
        }
        Rinks.give(x, 0, new int[] {1, 2, 3}, new int[] {1, 2, 3}, new int[] {2, 1, 3}, new int[] {2, 1, 3});
        Check.is("9: half is not more than half", 2, x.placing(0, 0, 0));
        Check.is("9: COUNT", 4, x.placing(0, 0, 1));
        Check.is("9: two are tied for the first", 3, x.placing(0, 0, 4));
        Check.is("9: two are tied for the first", 3, x.placing(0, 1, 4));
        Check.is("9: behind both", 6, x.placing(0, 2, 4));
        x.withdraw(1, 0);
        x.withdraw(2, 0);
        Check.is("9: one starter", 2, x.placing(0, 0, 4));
        Check.is("9: its MAJORITY", 1, x.placing(0, 0, 0));
        x.withdraw(0, 0);
        Check.is("9: no starters", NONE, x.placing(0, 0, 4));
        OrdinalRink most = Rinks.rink(10, 9);
        int[] row = {1, 2, 3, 4, 5, 6, 7, 8, 9, 10};
        Rinks.give(most, 2, row, row, row, row, row, row, row, row, row);
        Check.is("9: the tenth's place", 20, most.placing(2, 9, 4));
        Check.is("9: the tenth's ALL", 90, most.placing(2, 9, 3));
    }

    private static void step() {
        OrdinalRink x = Rinks.rink(4, 3);
        Check.is("10: not complete", NONE, x.step(1, 0, 1));
        Rinks.give(x, 1, FOUR);
        Check.is("10: ALL", 4, x.step(1, 0, 1));
        Check.is("10: ALL, the other way", 4, x.step(1, 1, 0));
        Check.is("10: MAJORITY", 1, x.step(1, 3, 2));
        Check.is("10: the same one", 0, x.step(1, 2, 2));
        Rinks.give(x, 0, new int[] {1, 2, 3, 4}, new int[] {2, 3, 1, 4}, new int[] {4, 2, 1, 3});
        Check.is("10: SUM", 3, x.step(0, 0, 1));
        Check.is("10: the lesser SUM", 4, x.placing(0, 0, 4));
        Check.is("10: the greater SUM", 6, x.placing(0, 1, 4));
        Rinks.give(x, 2, new int[] {1, 2, 3, 4}, new int[] {2, 1, 4, 3}, new int[] {2, 3, 1, 4});
        Check.is("10: COUNT", 2, x.step(2, 1, 0));
        Check.is("10: the greater COUNT", 2, x.placing(2, 0, 4));
        Check.is("10: the lesser COUNT", 4, x.placing(2, 1, 4));
        Rinks.give(x, 2, new int[] {1, 1, 3, 4}, new int[] {1, 1, 3, 4}, new int[] {1, 1, 3, 4});
        Check.is("10: tied", 0, x.step(2, 0, 1));
        x.withdraw(1, 2);
        Check.is("10: the other does not start", NONE, x.step(2, 0, 1));
        Check.is("10: the one does not start", NONE, x.step(2, 1, 0));
        for (int wrong : NO_INDEX) {
            Check.outOfBounds("10: segment " + wrong, () -> x.step(wrong, 0, 1));
            Check.outOfBounds("10: one " + wrong, () -> x.step(0, wrong, 1));
            Check.outOfBounds("10: other " + wrong, () -> x.step(0, 1, wrong));
        }
        Check.outOfBounds("10: segment 3", () -> x.step(3, 0, 1));
        Check.outOfBounds("10: one 4", () -> x.step(0, 4, 1));
        Check.outOfBounds("10: other 4", () -> x.step(0, 1, 4));
    }

    /** Skaters 0 and 1 have a judge each; what judge 2 has for skater 1 decides. */
    private static OrdinalRink undecided(int first, int second) {
        OrdinalRink x = new OrdinalRink();
        for (int s = 0; s < 3; s++) {
            for (int k = 0; k < 2; k++) {
                x.mark(s, k, k, 60, 60);
                x.mark(s, 1 - k, k, 0, 0);
            }
            x.mark(s, 2, 1, first, second);
        }
        return x;
    }

    private static void needed() {
        OrdinalRink x = undecided(60, 59);
        Check.is("11: FREE, 59 60 is better", 119, x.needed(1, 0, 1));
        Check.is("11: SHORT, 60 59 is not", 120, x.needed(0, 0, 1));
        Check.is("11: the second place", 0, x.needed(0, 0, 2));
        Check.is("11: the tenth place", 0, x.needed(0, 0, 10));
        OrdinalRink middle = undecided(20, 20);
        Check.is("11: 0 40 is better in FREE", 40, middle.needed(1, 0, 1));
        Check.is("11: 40 0 is better in SHORT", 40, middle.needed(0, 0, 1));
        middle.mark(1, 2, 0, 60, 60);
        Check.is("11: in place of the one that there is", 40, middle.needed(1, 0, 1));
        Check.is("11: nothing is better than 60 60", NONE, middle.needed(1, 1, 1));
        Check.is("11: SHORT, 60 59 is better than 59 60", 119, undecided(59, 60).needed(0, 0, 1));
        OrdinalRink lowest = undecided(0, 0);
        Check.is("11: more than 0 0", 1, lowest.needed(2, 0, 1));
        for (int wrong : new int[] {0, 11, -1, Integer.MAX_VALUE, Integer.MIN_VALUE}) {
            Check.badArgument("11: place " + wrong, () -> x.needed(0, 0, wrong));
        }
        for (int wrong : NO_INDEX) {
            Check.outOfBounds("11: segment " + wrong, () -> x.needed(wrong, 0, 0));
            Check.outOfBounds("11: skater " + wrong, () -> x.needed(0, wrong, 0));
        }
        Check.outOfBounds("11: segment 3", () -> x.needed(3, 0, 1));
        Check.outOfBounds("11: skater 2", () -> x.needed(0, 2, 1));
    }

    private static void neededWithDeductions() {
        OrdinalRink x = undecided(20, 20);
        x.deduct(1, 0, 0, 10);
        Check.is("11: 0 40 goes without it", 40, x.needed(1, 0, 1));
        x.deduct(1, 0, 1, 10);
        Check.is("11: 0 50 is 0 40", 50, x.needed(1, 0, 1));
        x.deduct(1, 0, 1, 60);
        Check.is("11: 51 0 is 41 0", 51, x.needed(1, 0, 1));
        x.deduct(1, 0, 0, 60);
        Check.is("11: nothing is left", NONE, x.needed(1, 0, 1));
        x.deduct(1, 1, 0, 60);
        x.deduct(1, 1, 1, 19);
        x.deduct(1, 0, 1, 50);
        Check.is("11: 0 51 is 0 1, a tie with 0 1", 52, x.needed(1, 0, 1));
    }

    private static void neededChangesNothing() {
        OrdinalRink x = undecided(20, 20);
        x.needed(1, 0, 1);
        Check.is("11: it is still not marked", NONE, x.ordinal(1, 2, 0));
        Check.is("11: nor complete", NONE, x.placing(1, 0, 4));
        x.mark(1, 2, 0, 5, 5);
        x.needed(1, 0, 1);
        Check.is("11: the mark is as it was", 2, x.ordinal(1, 2, 0));
        Check.is("11: the place is as it was", 4, x.placing(1, 0, 4));
        x.publish(1);
        Check.is("11: published", 40, x.needed(1, 0, 1));
        Check.is("11: the total is as it was", 40, x.total(0));
        Check.is("11: the rank is as it was", 2, x.rank(0));
    }

    private static void neededNone() {
        OrdinalRink x = Rinks.rink(3, 4);
        Rinks.give(x, 1, new int[] {1, 2, 3}, new int[] {2, 1, 3}, new int[] {2, 1}, new int[] {1, 2, 3});
        Check.is("11: judge 2 has not marked skater 2", NONE, x.needed(1, 0, 3));
        Check.is("11: judge 2 is not the last one", NONE, x.needed(1, 2, 3));
        x.strike(1, 3, true);
        Check.is("11: now it is", 0, x.needed(1, 2, 3));
        Check.is("11: but another skater lacks one", NONE, x.needed(1, 0, 3));
        x.mark(1, 2, 2, 1, 1);
        Check.is("11: to be before 49 30 and 48 30", 79, x.needed(1, 0, 1));
        Check.is("11: two judges have it last", NONE, x.needed(1, 2, 2));
        x.withdraw(2, 1);
        Check.is("11: does not start", NONE, x.needed(1, 2, 3));
        x.withdraw(0, 0);
        Check.is("11: the only starter", 0, x.needed(1, 1, 1));
    }

    private static void publish() {
        OrdinalRink x = Rinks.rink(3, 4);
        int[] row = {1, 2, 3};
        Rinks.give(x, 2, row, row, row);
        Check.badState("12: judge 3 has none", () -> x.publish(2));
        Check.is("12: a refused one changes nothing", NONE, x.rank(0));
        x.strike(2, 3, true);
        x.withdraw(1, 2);
        Check.is("12: the starters", 2, x.publish(2));
        Check.is("12: published", 20, x.total(0));
        Check.badState("12: it is published", () -> x.publish(2));
        Rinks.give(x, 1, row, row, row, row);
        Check.badState("12: not complete", () -> x.publish(0));
        Check.is("12: all start in 1", 3, x.publish(1));
    }

    private static void publishedIsClosed() {
        OrdinalRink x = Rinks.rink(2, 3);
        x.withdraw(0, 1);
        x.withdraw(1, 1);
        Check.badState("12: no starters", () -> x.publish(1));
        x.withdraw(1, 2);
        for (int judge = 0; judge < 3; judge++) {
            x.mark(1, judge, 1, 0, 0);
        }
        Check.is("12: one starter", 1, x.publish(1));
        for (int wrong : NO_INDEX) {
            Check.outOfBounds("12: segment " + wrong, () -> x.publish(wrong));
        }
        Check.outOfBounds("12: segment 3", () -> x.publish(3));
        x.event(2, 3);
        Rinks.win(x, 1, 0);
        Check.is("12: open in a new event", 2, x.publish(1));
    }

    private static void total() {
        OrdinalRink x = Rinks.rink(3, 3);
        int[] row = {1, 1, 3};
        for (int s = 0; s < 3; s++) {
            Rinks.give(x, s, row, row, row);
        }
        Check.is("13: nothing published", 0, x.total(0));
        x.publish(0);
        Check.is("13: 5 times 3, tied", 15, x.total(0));
        Check.is("13: 5 times 6", 30, x.total(2));
        x.withdraw(0, 2);
        x.segment(2, SHORT, 20);
        x.publish(2);
        Check.is("13: it did not start in 2", 15, x.total(0));
        Check.is("13: 15 and 20 times 2", 55, x.total(1));
        Check.is("13: 30 and 20 times 4", 110, x.total(2));
        for (int wrong : NO_INDEX) {
            Check.outOfBounds("13: skater " + wrong, () -> x.total(wrong));
        }
        Check.outOfBounds("13: skater 3", () -> x.total(3));
    }

    private static void rank() {
        OrdinalRink x = Rinks.rink(4, 3);
        int[] row = {2, 2, 1, 4};
        for (int s = 0; s < 3; s++) {
            Rinks.give(x, s, row, row, row);
        }
        Check.is("14: nothing published", NONE, x.rank(0));
        x.withdraw(3, 0);
        x.publish(0);
        int[] one = {2, 2, 1, 4};
        for (int k = 0; k < 4; k++) {
            Check.is("14: after the SHORT one, skater " + k, one[k], x.rank(k));
        }
        x.withdraw(2, 1);
        x.publish(1);
        int[] two = {1, 1, 3, 4};
        for (int k = 0; k < 4; k++) {
            Check.is("14: more segments first, skater " + k, two[k], x.rank(k));
        }
        for (int wrong : NO_INDEX) {
            Check.outOfBounds("14: skater " + wrong, () -> x.rank(wrong));
        }
        Check.outOfBounds("14: skater 4", () -> x.rank(4));
        Check.outOfBounds("14: skater 2 of 2", () -> new OrdinalRink().rank(2));
    }

    private static void rankByLastFree() {
        for (int kinds = 0; kinds < 4; kinds++) {
            OrdinalRink x = new OrdinalRink();
            x.segment(1, kinds % 2, 10);
            x.segment(2, kinds / 2, 10);
            Rinks.win(x, 1, 0);
            Rinks.win(x, 2, 1);
            x.publish(2);
            Check.is("14: before the other is published", 2, x.rank(0));
            x.publish(1);
            Check.is("14: the same total", x.total(0), x.total(1));
            int[] due = {1, 1, 2, 2};
            Check.is("14: kinds " + kinds + ", skater 0", due[kinds], x.rank(0));
            Check.is("14: kinds " + kinds + ", skater 1", kinds == 1 ? 2 : 1, x.rank(1));
        }
        OrdinalRink x = new OrdinalRink();
        x.event(3, 3);
        x.segment(0, FREE, 10);
        for (int judge = 0; judge < 3; judge++) {
            x.mark(2, judge, 2, 1, 1);
        }
        Rinks.give(x, 0, new int[] {1, 2, 3}, new int[] {1, 2, 3}, new int[] {1, 2, 3});
        Rinks.give(x, 1, new int[] {2, 1, 3}, new int[] {2, 1, 3}, new int[] {2, 1, 3});
        x.segment(1, SHORT, 10);
        x.withdraw(0, 2);
        x.withdraw(1, 2);
        x.publish(0);
        x.publish(1);
        Check.is("14: by the place in 0", 2, x.rank(1));
        x.publish(2);
        Check.is("14: neither started the last one", 2, x.rank(0));
        Check.is("14: neither started the last one", 2, x.rank(1));
        Check.is("14: three segments", 1, x.rank(2));
    }

    private static void proof() {
        OrdinalRink x = Rinks.rink(4, 3);
        Rinks.give(x, 1, FOUR);
        Check.is("15: how many", 11, x.proof(1, 0));
        Check.is("15: the page", "0 2 2 3 6 2", Rinks.pageOf(x));
        Check.is("15: how many", 13, x.proof(1, 3));
        Check.is("15: in place of that", "3 4 3 10 10 8", Rinks.pageOf(x));
        x.proof(1, 1);
        Check.is("15: a shorter one", "1 2 2 3 7 4", Rinks.pageOf(x));
        Check.badState("15: not complete", () -> x.proof(2, 1));
        x.withdraw(0, 1);
        Check.badState("15: does not start", () -> x.proof(1, 0));
        for (int wrong : NO_INDEX) {
            Check.outOfBounds("15: segment " + wrong, () -> x.proof(wrong, 0));
            Check.outOfBounds("15: skater " + wrong, () -> x.proof(0, wrong));
        }
        Check.outOfBounds("15: segment 3", () -> x.proof(3, 0));
        Check.outOfBounds("15: skater 4", () -> x.proof(0, 4));
        Check.is("15: a refused one changes nothing", "1 2 2 3 7 4", Rinks.pageOf(x));
        OrdinalRink most = Rinks.rink(10, 9);
        int[] row = {1, 2, 3, 4, 5, 6, 7, 8, 9, 10};
        Rinks.give(most, 2, row, row, row, row, row, row, row, row, row);
        most.publish(2);
        Check.is("15: the longest", 15, most.proof(2, 9));
        Check.is("15: the longest", "9 10 9 90 90 20", Rinks.pageOf(most));
    }

    private static void type() {
        OrdinalRink x = new OrdinalRink();
        for (int c : new int[] {0, 9, 10, 31, 127, 128, 255, 256, 0x2030, 0xFFFF}) {
            Check.is("16: code " + c, 0, x.type((char) c) ? 1 : 0);
        }
        Check.is("16: none of these is in the text", -1, x.check(0));
        for (int c = 32; c <= 126; c++) {
            Check.is("16: code " + c, 1, x.type((char) c) ? 1 : 0);
            boolean digit = c >= '0' && c <= '9';
            Check.is("16: it is in the text", digit ? -2 : -1, x.check(0));
        }
        for (int n = 0; n < 40; n++) {
            Check.is("16: character " + n, 1, x.type(n % 2 == 0 ? '7' : ' ') ? 1 : 0);
        }
        Check.is("16: there are 40", 0, x.type('7') ? 1 : 0);
        Check.is("16: there are 40", 0, x.type((char) 5) ? 1 : 0);
        Check.is("16: the page is another thing", 0, x.length());
        Check.is("16: a seventh number", -12, x.check(0));
        Check.is("16: there is room again", 1, x.type('7') ? 1 : 0);
    }

    private static void check() {
        OrdinalRink x = Rinks.rink(4, 3);
        Rinks.give(x, 1, FOUR);
        String[] proofs = {"0 2 2 3 6 2", "1 2 2 3 7 4", "2 3 3 7 7 6", "3 4 3 10 10 8"};
        for (String proof : proofs) {
            Check.is("17: " + proof, 1, Rinks.checked(x, 1, proof));
            Check.is("17: the text is empty then", -1, x.check(1));
            Check.is("17: in a segment that is not complete", 0, Rinks.checked(x, 2, proof));
        }
        String[] wrong = {"1 2 2 3 6 2", "0 3 2 3 6 2", "0 2 3 3 6 2", "0 2 2 4 6 2", "0 2 2 3 7 2",
            "0 2 2 3 6 3", "4 4 3 10 10 8", "9999 9999 9999 9999 9999 9999", "0 0 0 0 0 0", "10 2 2 3 6 2"};
        for (String line : wrong) {
            Check.is("17: " + line, 0, Rinks.checked(x, 1, line));
        }
        x.publish(1);
        Check.is("17: published", 1, Rinks.checked(x, 1, proofs[2]));
        x.event(4, 3);
        Rinks.give(x, 1, FOUR);
        x.withdraw(0, 1);
        Check.is("17: it does not start", 0, Rinks.checked(x, 1, proofs[0]));
        Check.is("17: as it was", 0, Rinks.checked(x, 1, proofs[1]));
        Check.is("17: as it is", 1, Rinks.checked(x, 1, "1 1 2 2 5 2"));
        Rinks.typeAll(x, "1 1 2 2 5 2");
        for (int none : NO_INDEX) {
            Check.outOfBounds("17: segment " + none, () -> x.check(none));
        }
        Check.outOfBounds("17: segment 3", () -> x.check(3));
        Check.is("17: the text stays", 1, x.check(1));
        x.proof(1, 3);
        Rinks.typeAll(x, Rinks.pageOf(x));
        Check.is("17: what is on the page", 1, x.check(1));
        Check.is("17: the page stays", 11, x.length());
    }

    private static void checkFaults() {
        OrdinalRink most = Rinks.rink(10, 9);
        int[] row = {1, 1, 1, 1, 1, 1, 1, 1, 1, 1};
        Rinks.give(most, 2, row, row, row, row, row, row, row, row, row);
        Check.is("17: skater 9 of ten", 1, Rinks.checked(most, 2, "9 1 9 9 9 11"));
        Check.is("17: there is no skater 10", 0, Rinks.checked(most, 2, "10 1 9 9 9 11"));
        OrdinalRink x = new OrdinalRink();
        Object[][] lines = {
            {"", 0}, {" ", 0}, {" 1 2 3 4 5 6", 0}, {"x", 0}, {"-1 2 3 4 5 6", 0}, {"+", 0},
            {"1", 1}, {"1 ", 2}, {"1 2 3 4 5", 9}, {"1 2 3 4 5 ", 10}, {"0", 1}, {"0 0 0 0 0 ", 10},
            {"01 2 3 4 5 6", 1}, {"00", 1}, {"1 02 3 4 5 6", 3}, {"1 2 3 4 5 00", 11}, {"1 2 3 4 5 06", 11},
            {"1  2 3 4 5 6", 2}, {"1 2 3 4 5  6", 10}, {"1 2 3 4 5 6 ", 11}, {"1 2 3 4 5 6 7", 11},
            {"1 2 3 4 5 6x", 11}, {"1,2 3 4 5 6", 1}, {"1 2 3 x 5 6", 6}, {"1 2 3 4. 5 6", 7},
            {"9999 9999 9999 9999 9999 99999", 29}, {"10000 1 1 1 1 1", 4}, {"9999", 4}, {"12345 x", 4},
            {"1 2 3 4 5 10000", 14}, {"0 0 0 0 0 /", 10}, {"0 0 0 0 0 :", 10}, {"0 0 0 0 0 0~", 11}};
        for (Object[] line : lines) {
            Check.is("17: " + line[0], -1 - (int) line[1], Rinks.checked(x, 2, (String) line[0]));
            Check.is("17: empty after " + line[0], -1, x.check(2));
        }
        Check.is("17: zeros that are needed", 0, Rinks.checked(x, 2, "10 100 1000 0 2000 3030"));
        Rinks.win(x, 2, 0);
        Check.is("17: faults in a complete segment", -1 - 11, Rinks.checked(x, 2, "0 1 3 3 3 2 "));
        Check.is("17: and without", 1, Rinks.checked(x, 2, "0 1 3 3 3 2"));
    }

    private static void lengthAndCharAt() {
        OrdinalRink x = new OrdinalRink();
        Check.is("18: empty", 0, x.length());
        Rinks.typeAll(x, "123");
        Check.is("18: the text is another thing", 0, x.length());
        Check.is("19: none", ' ', x.charAt(0));
        Rinks.win(x, 0, 1);
        x.proof(0, 1);
        Check.is("18: the page", 11, x.length());
        String due = "1 1 3 3 3 2";
        for (int p = 0; p < due.length(); p++) {
            Check.is("19: character " + p, due.charAt(p), x.charAt(p));
        }
        for (int p : new int[] {-1, 11, 12, 40, Integer.MAX_VALUE, Integer.MIN_VALUE}) {
            Check.is("19: character " + p, ' ', x.charAt(p));
        }
        x.withdraw(0, 0);
        Check.is("18: the page stays", 11, x.length());
        Check.is("19: the page stays", '1', x.charAt(2));
    }
}
