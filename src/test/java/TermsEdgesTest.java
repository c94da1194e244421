import java.util.LinkedHashMap;
import java.util.Map;

/** The boundary cases of the document's 'Terms', a method a sentence, on both sides. */
public final class TermsEdgesTest {
    private static final int NONE = OrdinalRink.NONE;
    private static final int SHORT = OrdinalRink.SHORT;
    private static final int FREE = OrdinalRink.FREE;

    /** A call whose one argument of a kind (skater, judge, segment) is the index. */
    private interface Indexed {
        void call(OrdinalRink x, int index);
    }

    public static void main(String[] args) {
        skaters();
        judges();
        segments();
        segmentsAtFirst();
        openUntilPublished();
        starters();
        numbers();
        deductionsAtFirst();
        deductionsDownToZero();
        deductionsPartMarks();
        betterBySum();
        betterBySecond();
        betterByFirst();
        ordinals();
        ordinalNeedsAllStarters();
        completeNeedsStarters();
        completeNeedsPanel();
        majority();
        counts();
        stepOne();
        stepTwo();
        stepThree();
        stepFour();
        tied();
        places();
        totals();
        moreSegments();
        lesserTotal();
        lastFree();
        lastFreeNotStarted();
        ranks();
        proofs();
        callsUpTo512();
        Check.end();
    }

    /** All judges have the skaters in the order of their numbers, in all segments up to the last. */
    private static OrdinalRink inOrder(int skaters, int judges, int lastSegment) {
        OrdinalRink x = Rinks.rink(skaters, judges);
        for (int s = 0; s <= lastSegment; s++) {
            for (int j = 0; j < judges; j++) {
                for (int k = 0; k < skaters; k++) {
                    x.mark(s, j, k, 40 - k, 30);
                }
            }
        }
        return x;
    }

    private static void figures(String what, OrdinalRink x, int skater, int... due) {
        for (int k = 0; k < due.length; k++) {
            Check.is(what + ", figure " + k, due[k], x.placing(1, skater, k));
        }
    }

    private static void takesOnly(OrdinalRink x, Map<String, Indexed> calls, int count) {
        for (Map.Entry<String, Indexed> entry : calls.entrySet()) {
            for (int index : new int[] {0, count - 1}) {
                String what = entry.getKey() + " " + index + " of " + count;
                Check.takes(what, () -> entry.getValue().call(x, index));
            }
            for (int index : Check.beside(0, count - 1)) {
                String what = entry.getKey() + " " + index + " of " + count;
                Check.outOfBounds(what, () -> entry.getValue().call(x, index));
            }
        }
    }

    private static void skaters() {
        Check.sentence("There are SKATERS 0 .. (2 to 10 of them)");
        Map<String, Indexed> calls = new LinkedHashMap<>();
        calls.put("mark for", (x, k) -> x.mark(0, 0, k, 5, 5));
        calls.put("deduct of", (x, k) -> x.deduct(0, k, 0, 0));
        calls.put("withdraw", (x, k) -> x.withdraw(k, 3));
        calls.put("ordinal of", (x, k) -> x.ordinal(0, 0, k));
        calls.put("placing of", (x, k) -> x.placing(0, k, 0));
        calls.put("step of one", (x, k) -> x.step(0, k, 0));
        calls.put("step of other", (x, k) -> x.step(0, 0, k));
        calls.put("needed of", (x, k) -> x.needed(0, k, 1));
        calls.put("total of", (x, k) -> x.total(k));
        calls.put("rank of", (x, k) -> x.rank(k));
        calls.put("proof of", (x, k) -> x.proof(0, k));
        for (int count = 2; count <= 10; count++) {
            takesOnly(inOrder(count, 3, 0), calls, count);
        }
        for (int count : Check.beside(2, 10)) {
            Check.badArgument(count + " skaters", () -> new OrdinalRink().event(count, 3));
            Check.badArgument(count + " skaters", () -> new OrdinalRink().event(count, 9));
        }
    }

    private static void judges() {
        Check.sentence("JUDGES 0 .. (3 to 9)");
        Map<String, Indexed> calls = new LinkedHashMap<>();
        calls.put("mark by", (x, j) -> x.mark(1, j, 0, 5, 5));
        calls.put("strike back", (x, j) -> x.strike(1, j, false));
        calls.put("ordinal by", (x, j) -> x.ordinal(1, j, 0));
        for (int count = 3; count <= 9; count++) {
            OrdinalRink x = Rinks.rink(2, count);
            takesOnly(x, calls, count);
            Check.is("the panel at first", count, x.strike(2, 0, false));
        }
        for (int count : Check.beside(3, 9)) {
            Check.badArgument(count + " judges", () -> new OrdinalRink().event(2, count));
            Check.badArgument(count + " judges", () -> new OrdinalRink().event(10, count));
        }
    }

    private static void segments() {
        Check.sentence("SEGMENTS 0, 1, 2");
        Map<String, Indexed> calls = new LinkedHashMap<>();
        calls.put("segment", (x, s) -> x.segment(s, FREE, 10));
        calls.put("mark in", (x, s) -> x.mark(s, 0, 0, 5, 5));
        calls.put("deduct in", (x, s) -> x.deduct(s, 0, 0, 0));
        calls.put("strike in", (x, s) -> x.strike(s, 0, false));
        calls.put("ordinal in", (x, s) -> x.ordinal(s, 0, 0));
        calls.put("placing in", (x, s) -> x.placing(s, 0, 0));
        calls.put("step in", (x, s) -> x.step(s, 0, 1));
        calls.put("needed in", (x, s) -> x.needed(s, 0, 1));
        calls.put("proof in", (x, s) -> x.proof(s, 0));
        calls.put("check in", (x, s) -> x.check(s));
        calls.put("publish", (x, s) -> x.publish(s));
        takesOnly(inOrder(2, 3, 2), calls, 3);
    }

    private static void segmentsAtFirst() {
        Check.sentence("at first 0 is SHORT with 5, the others FREE with 10");
        OrdinalRink x = new OrdinalRink();
        int before = 0;
        for (int s = 0; s < 3; s++) {
            for (int j = 0; j < 3; j++) {
                x.mark(s, j, 0, 31, 29);
                x.mark(s, j, 1, 29, 31);
            }
            Check.is("kind of " + s, s == 0 ? 1 : 2, x.ordinal(s, 0, 0));
            x.publish(s);
            Check.is("factor of " + s, s == 0 ? 2 * 5 : 4 * 10, x.total(0) - before);
            before = x.total(0);
        }
    }

    private static void openUntilPublished() {
        Check.sentence("It is OPEN until it is PUBLISHED");
        OrdinalRink x = inOrder(2, 4, 2);
        for (int s = 0; s < 3; s++) {
            int segment = s;
            Check.takes("segment", () -> x.segment(segment, FREE, 3));
            Check.takes("mark", () -> x.mark(segment, 0, 0, 50, 50));
            Check.takes("deduct", () -> x.deduct(segment, 1, 0, 1));
            Check.takes("strike", () -> x.strike(segment, 3, true));
            Check.takes("publish", () -> x.publish(segment));
            Check.badState("segment", () -> x.segment(segment, FREE, 3));
            Check.badState("mark", () -> x.mark(segment, 0, 0, 50, 50));
            Check.badState("deduct", () -> x.deduct(segment, 1, 0, 1));
            Check.badState("strike", () -> x.strike(segment, 3, true));
            Check.badState("publish", () -> x.publish(segment));
        }
    }

    private static void starters() {
        Check.sentence("Its STARTERS are the skaters that are not withdrawn from it");
        for (int from = 0; from <= 3; from++) {
            OrdinalRink x = inOrder(3, 3, 2);
            x.withdraw(0, from);
            for (int s = 0; s < 3; s++) {
                Check.is("the withdrawn one, from " + from + " in " + s, s < from ? 1 : NONE, x.ordinal(s, 0, 0));
                Check.is("the next one, from " + from + " in " + s, s < from ? 2 : 1, x.ordinal(s, 0, 1));
                Check.is("how many, from " + from + " in " + s, s < from ? 3 : 2, x.publish(s));
            }
        }
    }

    private static void numbers() {
        Check.sentence("A MARK of a judge for a skater are two numbers 0 .. 60");
        OrdinalRink x = new OrdinalRink();
        int[][] pairs = {{0, 0, 0, 1}, {0, 0, 1, 0}, {59, 60, 60, 60}, {60, 59, 60, 60}, {0, 60, 60, 1}};
        for (int[] pair : pairs) {
            Check.takes("the lesser one", () -> x.mark(1, 0, 0, pair[0], pair[1]));
            Check.takes("the greater one", () -> x.mark(1, 0, 1, pair[2], pair[3]));
            Check.is("the lesser one's ordinal", 2, x.ordinal(1, 0, 0));
            Check.is("the greater one's ordinal", 1, x.ordinal(1, 0, 1));
        }
        for (int number : Check.beside(0, 60)) {
            Check.badArgument("FIRST " + number, () -> x.mark(1, 0, 0, number, 0));
            Check.badArgument("FIRST " + number, () -> x.mark(1, 0, 0, number, 60));
            Check.badArgument("SECOND " + number, () -> x.mark(1, 0, 0, 0, number));
            Check.badArgument("SECOND " + number, () -> x.mark(1, 0, 0, 60, number));
        }
    }

    private static void deductionsAtFirst() {
        Check.sentence("a skater's DEDUCTIONS (two, at first 0)");
        OrdinalRink x = Rinks.rink(10, 3);
        for (int s = 0; s < 3; s++) {
            for (int k = 0; k < 10; k++) {
                Check.is("of FIRST", 0, x.deduct(s, k, 0, 7));
                Check.is("of SECOND", 0, x.deduct(s, k, 1, 8));
            }
        }
        Check.is("of FIRST, told", 7, x.deduct(2, 9, 0, 0));
        Check.is("of SECOND, told", 8, x.deduct(2, 9, 1, 0));
        Check.outOfBounds("a third", () -> x.deduct(2, 9, 2, 0));
        Check.outOfBounds("one before", () -> x.deduct(2, 9, -1, 0));
    }

    private static void deductionsDownToZero() {
        Check.sentence("are taken from these, down to 0 at most");
        for (int which = 0; which < 2; which++) {
            for (int taken : new int[] {0, 9, 10, 11, 60}) {
                OrdinalRink x = new OrdinalRink();
                int left = Math.max(0, 10 - taken);
                x.deduct(1, 0, which, taken);
                x.mark(1, 0, 0, 10, 10);
                x.mark(1, 0, 1, which == 0 ? left : 10, which == 1 ? left : 10);
                Check.is("10 less " + taken + " is no less", 1, x.ordinal(1, 0, 0));
                Check.is("10 less " + taken + " is no more", 1, x.ordinal(1, 0, 1));
                x.mark(1, 0, 1, which == 0 ? left + 1 : 10, which == 1 ? left + 1 : 10);
                Check.is("one more is better", 2, x.ordinal(1, 0, 0));
            }
        }
        OrdinalRink x = new OrdinalRink();
        x.mark(2, 0, 0, 0, 0);
        x.mark(2, 0, 1, 0, 0);
        x.deduct(2, 0, 0, 60);
        x.deduct(2, 0, 1, 60);
        Check.is("0 0 less 60 60", 1, x.ordinal(2, 0, 0));
    }

    private static void deductionsPartMarks() {
        Check.sentence("for which it has a BETTER one (deductions taken)");
        OrdinalRink x = new OrdinalRink();
        for (int s = 0; s < 2; s++) {
            x.mark(s, 0, 0, 30, 30);
            x.mark(s, 0, 1, 30, 30);
            x.deduct(s, 0, 0, 5);
            x.deduct(s, 1, 1, 5);
        }
        Check.is("SHORT, 25 30 behind 30 25", 2, x.ordinal(0, 0, 0));
        Check.is("SHORT, 30 25 before 25 30", 1, x.ordinal(0, 0, 1));
        Check.is("FREE, 25 30 before 30 25", 1, x.ordinal(1, 0, 0));
        Check.is("FREE, 30 25 behind 25 30", 2, x.ordinal(1, 0, 1));
    }

    private static void betterBySum() {
        Check.sentence("A pair of numbers is BETTER than another one if its sum is greater");
        for (int s = 0; s < 2; s++) {
            OrdinalRink x = new OrdinalRink();
            x.mark(s, 0, 0, s == 0 ? 60 : 0, s == 0 ? 0 : 60);
            x.mark(s, 0, 1, s == 0 ? 1 : 60, s == 0 ? 60 : 1);
            Check.is("60 in all, segment " + s, 2, x.ordinal(s, 0, 0));
            Check.is("61 in all, segment " + s, 1, x.ordinal(s, 0, 1));
        }
    }

    private static void betterBySecond() {
        Check.sentence("or the same and its SECOND (SHORT: its FIRST) is greater");
        OrdinalRink x = new OrdinalRink();
        int[][] marks = {{30, 30}, {29, 31}, {31, 29}, {0, 60}, {60, 0}};
        int[] due = {1, 1, 2, 1, 2};
        for (int k = 0; k < marks.length; k++) {
            x.mark(1, 0, 0, 30, 30);
            x.mark(1, 0, 1, marks[k][0], marks[k][1]);
            Check.is(marks[k][0] + " " + marks[k][1] + " beside 30 30", due[k], x.ordinal(1, 0, 1));
            Check.is("30 30 beside it", k == 1 || k == 3 ? 2 : 1, x.ordinal(1, 0, 0));
        }
    }

    private static void betterByFirst() {
        Check.sentence("(SHORT: its FIRST)");
        OrdinalRink x = new OrdinalRink();
        int[][] marks = {{30, 30}, {29, 31}, {31, 29}, {0, 60}, {60, 0}};
        int[] due = {1, 2, 1, 2, 1};
        for (int k = 0; k < marks.length; k++) {
            x.mark(0, 0, 0, 30, 30);
            x.mark(0, 0, 1, marks[k][0], marks[k][1]);
            Check.is(marks[k][0] + " " + marks[k][1] + " beside 30 30", due[k], x.ordinal(0, 0, 1));
            Check.is("30 30 beside it", k == 2 || k == 4 ? 2 : 1, x.ordinal(0, 0, 0));
        }
    }

    private static void ordinals() {
        Check.sentence("1 + the number of starters for which it has a BETTER one");
        OrdinalRink x = inOrder(10, 3, 0);
        for (int k = 0; k < 10; k++) {
            Check.is("of skater " + k, 1 + k, x.ordinal(0, 2, k));
            x.mark(0, 1, k, 33, 33);
        }
        for (int k = 0; k < 10; k++) {
            Check.is("all the same, skater " + k, 1, x.ordinal(0, 1, k));
        }
        x.mark(0, 1, 4, 33, 34);
        x.mark(0, 1, 5, 33, 32);
        Check.is("the better one", 1, x.ordinal(0, 1, 4));
        Check.is("between", 2, x.ordinal(0, 1, 0));
        Check.is("the worse one", 10, x.ordinal(0, 1, 5));
    }

    private static void ordinalNeedsAllStarters() {
        Check.sentence("there is none if it has not marked all starters");
        OrdinalRink x = Rinks.rink(10, 3);
        for (int k = 0; k < 10; k++) {
            for (int other = 0; other < 10; other++) {
                Check.is(k + " of 10 marked", NONE, x.ordinal(2, 0, other));
            }
            x.mark(2, 0, k, 0, 0);
        }
        Check.is("all 10 marked, though 0 0", 1, x.ordinal(2, 0, 9));
        Check.is("another judge has none", NONE, x.ordinal(2, 1, 9));
        OrdinalRink less = Rinks.rink(10, 3);
        for (int k = 1; k < 9; k++) {
            less.mark(1, 0, k, k, k);
        }
        less.withdraw(0, 1);
        Check.is("one starter lacks one", NONE, less.ordinal(1, 0, 8));
        less.withdraw(9, 1);
        Check.is("only others lack one", 1, less.ordinal(1, 0, 8));
        Check.is("only others lack one", 8, less.ordinal(1, 0, 1));
    }

    private static void completeNeedsStarters() {
        Check.sentence("A segment is COMPLETE if it has starters");
        OrdinalRink x = inOrder(3, 3, 2);
        for (int k = 0; k < 3; k++) {
            Check.is("it has " + (3 - k), 2, x.placing(1, k, 4));
            x.withdraw(k, 1);
        }
        for (int k = 0; k < 3; k++) {
            Check.is("it has none", NONE, x.placing(1, k, 4));
            Check.is("it has none", NONE, x.step(1, k, k));
            Check.is("it has none", NONE, x.needed(1, k, 10));
        }
        Check.badState("it has none", () -> x.publish(1));
        x.withdraw(2, 2);
        Check.is("it has one", 1, x.publish(1));
    }

    private static void completeNeedsPanel() {
        Check.sentence("and all judges of its panel have ordinals");
        OrdinalRink x = Rinks.rink(2, 9);
        for (int j = 0; j < 9; j++) {
            Check.is(j + " judges have", NONE, x.placing(1, 0, 4));
            x.mark(1, j, 0, 9, 9);
            Check.is("half of judge " + j, NONE, x.placing(1, 0, 4));
            x.mark(1, j, 1, 8, 8);
        }
        Check.is("all nine have", 2, x.placing(1, 0, 4));
        for (int missing = 0; missing < 3; missing++) {
            OrdinalRink lacking = new OrdinalRink();
            for (int j = 0; j < 3; j++) {
                lacking.mark(1, j, 0, 9, 9);
                if (j != missing) {
                    lacking.mark(1, j, 1, 8, 8);
                }
            }
            Check.is("judge " + missing + " alone lacks one", NONE, lacking.placing(1, 0, 4));
            Check.badState("judge " + missing + " alone lacks one", () -> lacking.publish(1));
        }
        OrdinalRink struck = Rinks.rink(2, 4);
        for (int j = 0; j < 3; j++) {
            struck.mark(1, j, 0, 9, 9);
            struck.mark(1, j, 1, 8, 8);
        }
        Check.is("the fourth has none", NONE, struck.placing(1, 0, 4));
        struck.strike(1, 3, true);
        Check.is("the fourth is struck", 2, struck.placing(1, 0, 4));
        struck.strike(1, 3, false);
        struck.strike(1, 0, true);
        Check.is("another is struck", NONE, struck.placing(1, 0, 4));
    }

    private static void majority() {
        Check.sentence("the least p for which more than half of the panel have an ordinal p or less");
        for (int judges = 3; judges <= 9; judges++) {
            for (int firsts = 0; firsts <= judges; firsts++) {
                OrdinalRink x = Rinks.rink(2, judges);
                for (int j = 0; j < judges; j++) {
                    x.mark(1, j, 0, j < firsts ? 9 : 7, 9);
                    x.mark(1, j, 1, 8, 9);
                }
                boolean most = 2 * firsts > judges;
                figures(firsts + " of " + judges, x, 0, most ? 1 : 2, most ? firsts : judges,
                        most ? firsts : 2 * judges - firsts, 2 * judges - firsts);
            }
        }
        OrdinalRink x = inOrder(10, 4, 1);
        x.mark(1, 0, 9, 60, 60);
        x.mark(1, 1, 9, 60, 60);
        figures("half have 1, half 10", x, 9, 10, 4, 22, 22);
        x.mark(1, 2, 9, 39, 30);
        figures("the third has 2", x, 9, 2, 3, 4, 14);
    }

    private static void counts() {
        Check.sentence("COUNT is how many have; SUM the sum of these ordinals; ALL the sum of all of the panel's");
        OrdinalRink x = Rinks.rink(4, 6);
        Rinks.give(x, 1, Rinks.row(1, 2, 3, 4), Rinks.row(1, 2, 3, 4), Rinks.row(3, 1, 2, 4),
                Rinks.row(3, 1, 2, 4), Rinks.row(4, 1, 2, 3), Rinks.row(2, 1, 3, 4));
        figures("all six", x, 0, 3, 5, 10, 14);
        x.strike(1, 0, true);
        figures("without a 1", x, 0, 3, 4, 9, 13);
        x.strike(1, 3, true);
        figures("without a 1 and a 3", x, 0, 3, 3, 6, 10);
        x.strike(1, 4, true);
        figures("without the 4 too", x, 0, 2, 2, 3, 6);
    }

    private static void stepOne() {
        Check.sentence("STEP 1, the lesser MAJORITY");
        OrdinalRink x = Rinks.rink(3, 3);
        Rinks.give(x, 1, Rinks.row(1, 2, 3), Rinks.row(1, 2, 3), Rinks.row(3, 1, 2));
        figures("the one, though its ALL is not less", x, 0, 1, 2, 2, 5, 2);
        figures("the other, though its COUNT is greater", x, 1, 2, 3, 5, 5, 4);
        Check.is("parted", 1, x.step(1, 0, 1));
        Check.is("parted the other way", 1, x.step(1, 1, 0));
    }

    private static void stepTwo() {
        Check.sentence("else, STEP 2, the greater COUNT");
        OrdinalRink x = Rinks.rink(4, 3);
        Rinks.give(x, 1, Rinks.row(1, 2, 3, 4), Rinks.row(2, 1, 4, 3), Rinks.row(2, 3, 1, 4));
        figures("the one, though its SUM is greater", x, 0, 2, 3, 5, 5, 2);
        figures("the other", x, 1, 2, 2, 3, 6, 4);
        Check.is("parted", 2, x.step(1, 0, 1));
        Check.is("parted the other way", 2, x.step(1, 1, 0));
    }

    private static void stepThree() {
        Check.sentence("else, STEP 3, the lesser SUM");
        OrdinalRink x = Rinks.rink(4, 3);
        Rinks.give(x, 1, Rinks.row(1, 2, 3, 4), Rinks.row(2, 3, 1, 4), Rinks.row(4, 2, 1, 3));
        figures("the one, though its ALL is no less", x, 0, 2, 2, 3, 7, 4);
        figures("the other", x, 1, 2, 2, 4, 7, 6);
        Check.is("parted", 3, x.step(1, 0, 1));
        Check.is("parted the other way", 3, x.step(1, 1, 0));
    }

    private static void stepFour() {
        Check.sentence("else, STEP 4, the lesser ALL");
        OrdinalRink x = Rinks.rink(4, 3);
        Rinks.give(x, 1, Rinks.row(1, 2, 3, 4), Rinks.row(2, 1, 3, 4), Rinks.row(3, 4, 1, 2));
        figures("the one", x, 0, 2, 2, 3, 6, 2);
        figures("the other", x, 1, 2, 2, 3, 7, 4);
        Check.is("parted", 4, x.step(1, 0, 1));
        Check.is("parted the other way", 4, x.step(1, 1, 0));
    }

    private static void tied() {
        Check.sentence("else they are TIED");
        OrdinalRink x = Rinks.rink(4, 3);
        Rinks.give(x, 1, Rinks.row(1, 2, 3, 4), Rinks.row(2, 1, 3, 4), Rinks.row(3, 3, 1, 2));
        figures("the one", x, 0, 2, 2, 3, 6, 3);
        figures("the other", x, 1, 2, 2, 3, 6, 3);
        Check.is("not parted", 0, x.step(1, 0, 1));
        Check.is("not parted the other way", 0, x.step(1, 1, 0));
        Check.is("parted from others", 1, x.step(1, 0, 2));
    }

    private static void places() {
        Check.sentence("2 + 2 * how many are before it + how many others it is TIED with");
        OrdinalRink x = inOrder(10, 3, 1);
        for (int k = 0; k < 10; k++) {
            Check.is("in order, skater " + k, 2 + 2 * k, x.placing(1, k, 4));
        }
        for (int alike = 2; alike <= 10; alike++) {
            for (int j = 0; j < 3; j++) {
                x.mark(1, j, alike - 1, 40, 30);
            }
            Check.is(alike + " are tied for the first", 2 + alike - 1, x.placing(1, 0, 4));
            Check.is(alike + " are tied for the first", 2 + alike - 1, x.placing(1, alike - 1, 4));
            if (alike < 10) {
                Check.is("behind " + alike, 2 + 2 * alike, x.placing(1, alike, 4));
            }
        }
        for (int k = 0; k < 9; k++) {
            x.withdraw(k, 1);
        }
        Check.is("the only starter", 2, x.placing(1, 9, 4));
    }

    private static void totals() {
        Check.sentence("the sum of factor * place of all PUBLISHED segments that it started");
        OrdinalRink x = inOrder(2, 3, 2);
        x.segment(0, SHORT, 1);
        x.segment(2, FREE, 20);
        x.withdraw(1, 1);
        int[][] due = {{0, 0}, {2, 4}, {42, 4}, {62, 4}};
        int[] order = {0, 2, 1};
        for (int told = 0; told <= 3; told++) {
            Check.is(told + " published, skater 0", due[told][0], x.total(0));
            Check.is(told + " published, skater 1", due[told][1], x.total(1));
            if (told < 3) {
                x.publish(order[told]);
            }
        }
        OrdinalRink most = inOrder(10, 3, 2);
        for (int s = 0; s < 3; s++) {
            most.segment(s, FREE, 20);
            most.publish(s);
        }
        Check.is("the greatest", 3 * 20 * 20, most.total(9));
    }

    private static void moreSegments() {
        Check.sentence("a skater is before another one if it started more PUBLISHED segments");
        OrdinalRink x = inOrder(2, 3, 2);
        x.withdraw(0, 2);
        x.publish(0);
        x.publish(1);
        Check.is("as many, the first", 1, x.rank(0));
        Check.is("as many, the second", 2, x.rank(1));
        x.publish(2);
        Check.is("one more", 1, x.rank(1));
        Check.is("one less, though the total is less", 2, x.rank(0));
        Check.is("its total", 30, x.total(0));
        Check.is("the other's", 80, x.total(1));
    }

    private static void lesserTotal() {
        Check.sentence("of as many, if its TOTAL is less");
        OrdinalRink x = Rinks.rink(3, 3);
        Rinks.give(x, 0, Rinks.row(1, 2, 2), Rinks.row(1, 2, 2), Rinks.row(1, 2, 2));
        Rinks.give(x, 2, Rinks.row(3, 1, 2), Rinks.row(3, 1, 2), Rinks.row(3, 1, 2));
        x.segment(0, SHORT, 1);
        x.segment(2, SHORT, 1);
        x.publish(0);
        Check.is("2 before 5", 1, x.rank(0));
        Check.is("5 behind 2", 2, x.rank(1));
        x.publish(2);
        int[] totals = {8, 7, 9};
        int[] ranks = {2, 1, 3};
        for (int k = 0; k < 3; k++) {
            Check.is("total of " + k, totals[k], x.total(k));
            Check.is("one less is before, " + k, ranks[k], x.rank(k));
        }
    }

    /** Skater 0 wins segment 1, skater 1 segment 2, and both have the same place in 0. */
    private static OrdinalRink evenly(int kindOfOne, int kindOfTwo) {
        OrdinalRink x = new OrdinalRink();
        Rinks.give(x, 0, Rinks.row(1, 1), Rinks.row(1, 1), Rinks.row(1, 1));
        x.segment(1, kindOfOne, 10);
        x.segment(2, kindOfTwo, 10);
        Rinks.win(x, 1, 0);
        Rinks.win(x, 2, 1);
        return x;
    }

    private static void lastFree() {
        Check.sentence("of the same TOTAL, if some FREE segment is PUBLISHED, both started the last such one,"
                + " and its place is less in that");
        int[][] kindsAndRanks = {{FREE, FREE, 2, 1}, {FREE, SHORT, 1, 2}, {SHORT, FREE, 2, 1}, {SHORT, SHORT, 1, 1}};
        for (int[] due : kindsAndRanks) {
            OrdinalRink x = evenly(due[0], due[1]);
            x.publish(0);
            Check.is("no FREE one is published", 1, x.rank(0));
            Check.is("no FREE one is published", 1, x.rank(1));
            x.publish(2);
            x.publish(1);
            Check.is("the totals", x.total(0), x.total(1));
            Check.is("kinds " + due[0] + " " + due[1] + ", skater 0", due[2], x.rank(0));
            Check.is("kinds " + due[0] + " " + due[1] + ", skater 1", due[3], x.rank(1));
        }
        OrdinalRink x = evenly(FREE, FREE);
        Rinks.give(x, 2, Rinks.row(1, 1), Rinks.row(1, 1), Rinks.row(1, 1));
        Rinks.give(x, 1, Rinks.row(1, 1), Rinks.row(1, 1), Rinks.row(1, 1));
        x.publish(2);
        x.publish(1);
        Check.is("the same place in that", 1, x.rank(0));
        Check.is("the same place in that", 1, x.rank(1));
    }

    private static void lastFreeNotStarted() {
        Check.sentence("both started the last such one");
        OrdinalRink x = Rinks.rink(3, 3);
        x.segment(0, FREE, 10);
        x.segment(1, SHORT, 10);
        Rinks.give(x, 0, Rinks.row(1, 2, 3), Rinks.row(1, 2, 3), Rinks.row(1, 2, 3));
        Rinks.give(x, 1, Rinks.row(2, 1, 3), Rinks.row(2, 1, 3), Rinks.row(2, 1, 3));
        Rinks.give(x, 2, Rinks.row(1, 2, 3), Rinks.row(1, 2, 3), Rinks.row(1, 2, 3));
        x.withdraw(0, 2);
        x.withdraw(1, 2);
        x.publish(0);
        x.publish(1);
        Check.is("0 is the last one, the first", 1, x.rank(0));
        Check.is("0 is the last one, the second", 2, x.rank(1));
        x.publish(2);
        Check.is("2 is the last one, and they did not start it", 2, x.rank(0));
        Check.is("2 is the last one, and they did not start it", 2, x.rank(1));
    }

    private static void ranks() {
        Check.sentence("Its RANK is 1 + how many are before it");
        OrdinalRink x = inOrder(10, 3, 0);
        x.publish(0);
        for (int k = 0; k < 10; k++) {
            Check.is("in order, skater " + k, 1 + k, x.rank(k));
        }
        OrdinalRink out = inOrder(4, 3, 0);
        out.withdraw(0, 0);
        out.withdraw(1, 0);
        for (int j = 0; j < 3; j++) {
            out.mark(0, j, 2, 9, 9);
            out.mark(0, j, 3, 9, 9);
        }
        out.publish(0);
        int[] due = {3, 3, 1, 1};
        for (int k = 0; k < 4; k++) {
            Check.is("two share each, skater " + k, due[k], out.rank(k));
        }
    }

    private static void proofs() {
        Check.sentence("A PROOF is a line of six numbers, with one space between");
        OrdinalRink x = inOrder(10, 9, 0);
        Check.is("the shortest numbers", 11, x.proof(0, 0));
        Check.is("the shortest numbers", "0 1 9 9 9 2", Rinks.pageOf(x));
        Check.is("the longest numbers", 15, x.proof(0, 9));
        Check.is("the longest numbers", "9 10 9 90 90 20", Rinks.pageOf(x));
    }

    private static void callsUpTo512() {
        Check.sentence("An object is used for at most 512 calls after it has been made");
        OrdinalRink x = new OrdinalRink();
        Rinks.win(x, 2, 1);
        for (int call = 6; call < 510; call += 2) {
            x.proof(2, call % 4 / 2);
            x.needed(2, 0, 1);
        }
        Check.is("the 511th", 11, x.proof(2, 1));
        Check.is("the 512th", '1', x.charAt(0));
    }
}
