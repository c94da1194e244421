/** The boundary cases that the promises name, a method a sentence, on both sides. */
public final class PromiseEdgesTest {
    private static final int NONE = OrdinalRink.NONE;
    private static final int SHORT = OrdinalRink.SHORT;
    private static final int FREE = OrdinalRink.FREE;

    public static void main(String[] args) {
        newObject();
        newObjectEmpty();
        eventForgets();
        eventOpens();
        eventLeavesTheRest();
        eventSizes();
        segmentKinds();
        segmentFactors();
        segmentPublished();
        markInPlace();
        markNumbers();
        markPublished();
        deductInPlace();
        deductWhich();
        deductTenths();
        deductPublished();
        strikeAnswers();
        strikeThreeLeft();
        strikePublished();
        withdrawAnswers();
        withdrawSegments();
        withdrawPublished();
        ordinalOfStruck();
        ordinalNone();
        placingWhat();
        placingNone();
        stepTied();
        stepNone();
        neededLeast();
        neededJudge();
        neededInPlace();
        neededNone();
        neededNotComplete();
        neededDeductions();
        neededPublished();
        neededPlaces();
        publishStarters();
        publishTwice();
        publishNotComplete();
        totalOfNone();
        rankOfNone();
        proofInPlace();
        proofNone();
        typeCodes();
        typeForty();
        checkEmpties();
        checkAsItIs();
        checkOfNone();
        checkDigits();
        checkZeros();
        checkSpaces();
        checkMissing();
        checkNoSegment();
        lengthOfPage();
        charAtNone();
        Check.end();
    }

    /** Two skaters, three judges: skater 0 wins all segments, none is published. */
    private static OrdinalRink won() {
        OrdinalRink x = new OrdinalRink();
        for (int s = 0; s < 3; s++) {
            Rinks.win(x, s, 0);
        }
        return x;
    }

    private static void newObject() {
        Check.sentence("Two skaters and three judges; nothing marked");
        OrdinalRink x = new OrdinalRink();
        Check.takes("the second skater", () -> x.total(1));
        Check.outOfBounds("a third skater", () -> x.total(2));
        for (int s = 0; s < 3; s++) {
            int segment = s;
            Check.is("three judges", 3, x.strike(s, 2, false));
            Check.outOfBounds("a fourth judge", () -> x.strike(segment, 3, false));
            for (int j = 0; j < 3; j++) {
                Check.is("not marked", NONE, x.ordinal(s, j, 0));
                x.mark(s, j, 0, 1, 1);
                Check.is("the other is not marked", NONE, x.ordinal(s, j, 0));
                x.mark(s, j, 1, 0, 0);
                Check.is("marked", 1, x.ordinal(s, j, 0));
            }
        }
    }

    private static void newObjectEmpty() {
        Check.sentence("text and page empty");
        OrdinalRink x = new OrdinalRink();
        Check.is("the page", 0, x.length());
        Check.is("the page", ' ', x.charAt(0));
        Check.is("the text", -1, x.check(0));
        for (int n = 1; n <= 40; n++) {
            Check.is("all 40 are free, " + n, 1, x.type('1') ? 1 : 0);
        }
        Check.is("the 41st is not", 0, x.type('1') ? 1 : 0);
    }

    private static void eventForgets() {
        Check.sentence("A new event: no marks, deductions, strikes, withdrawals");
        OrdinalRink x = Rinks.rink(3, 4);
        for (int s = 0; s < 3; s++) {
            Rinks.give(x, s, Rinks.row(1, 2, 3), Rinks.row(1, 2, 3), Rinks.row(1, 2, 3), Rinks.row(1, 2, 3));
            x.deduct(s, 2, 0, 60);
            x.deduct(s, 2, 1, 1);
            x.strike(s, 3, true);
        }
        x.withdraw(0, 0);
        x.withdraw(1, 2);
        x.event(3, 4);
        for (int s = 0; s < 3; s++) {
            for (int k = 0; k < 3; k++) {
                Check.is("no marks", NONE, x.ordinal(s, 0, k));
            }
            Check.is("no deductions", 0, x.deduct(s, 2, 0, 0));
            Check.is("no deductions", 0, x.deduct(s, 2, 1, 0));
            Check.is("no strikes", 4, x.strike(s, 0, false));
        }
        for (int k = 0; k < 3; k++) {
            Check.is("no withdrawals", 3, x.withdraw(k, 3));
        }
    }

    private static void eventOpens() {
        Check.sentence("all segments OPEN as at first");
        OrdinalRink x = won();
        for (int s = 0; s < 3; s++) {
            x.segment(s, s == 0 ? FREE : SHORT, 19);
            x.publish(s);
        }
        x.event(2, 3);
        Check.is("none is published", NONE, x.rank(0));
        Check.is("none is published", 0, x.total(0));
        int before = 0;
        for (int s = 0; s < 3; s++) {
            for (int j = 0; j < 3; j++) {
                x.mark(s, j, 0, 31, 29);
                x.mark(s, j, 1, 29, 31);
            }
            Check.is("kind of " + s, s == 0 ? 1 : 2, x.ordinal(s, 0, 0));
            Check.is("it is open", 2, x.publish(s));
            Check.is("factor of " + s, s == 0 ? 10 : 40, x.total(0) - before);
            before = x.total(0);
        }
    }

    private static void eventLeavesTheRest() {
        Check.sentence("A new event: no marks, deductions, strikes, withdrawals; all segments OPEN as at first");
        OrdinalRink x = won();
        x.proof(2, 1);
        Rinks.typeAll(x, "1 2 3 3 6");
        x.event(3, 5);
        Check.is("the page is not among these", "1 2 3 6 6 4", Rinks.pageOf(x));
        Rinks.typeAll(x, " x");
        Check.is("the text is not among these", -1 - 10, x.check(0));
    }

    private static void eventSizes() {
        Check.sentence("IllegalArgument: there are not so many skaters, or judges");
        OrdinalRink x = new OrdinalRink();
        for (int skaters = 2; skaters <= 10; skaters++) {
            for (int judges = 3; judges <= 9; judges++) {
                int manySkaters = skaters;
                int manyJudges = judges;
                Check.takes("event", () -> x.event(manySkaters, manyJudges));
                Check.is("the judges", judges, x.strike(0, judges - 1, false));
                Check.is("the skaters", 3, x.withdraw(skaters - 1, 3));
            }
        }
        for (int wrong : Check.beside(2, 10)) {
            Check.badArgument("skaters", () -> x.event(wrong, 3));
        }
        for (int wrong : Check.beside(3, 9)) {
            Check.badArgument("judges", () -> x.event(2, wrong));
        }
        Check.badArgument("judges for skaters", () -> x.event(2, 2));
        Check.badArgument("both too many", () -> x.event(11, 10));
        Check.is("the last one taken stands", 9, x.strike(0, 8, false));
        Check.takes("the last one taken stands", () -> x.total(9));
    }

    private static void segmentKinds() {
        Check.sentence("IllegalArgument: the kind is neither SHORT nor FREE");
        for (int s = 0; s < 3; s++) {
            int segment = s;
            OrdinalRink x = new OrdinalRink();
            x.mark(s, 0, 0, 31, 29);
            x.mark(s, 0, 1, 29, 31);
            Check.takes("SHORT", () -> x.segment(segment, SHORT, 10));
            Check.is("SHORT", 1, x.ordinal(s, 0, 0));
            Check.takes("FREE", () -> x.segment(segment, FREE, 10));
            Check.is("FREE", 2, x.ordinal(s, 0, 0));
            for (int kind : Check.beside(0, 1)) {
                Check.badArgument("kind " + kind, () -> x.segment(segment, kind, 10));
            }
            Check.is("still FREE", 2, x.ordinal(s, 0, 0));
        }
    }

    private static void segmentFactors() {
        Check.sentence("or the factor not 1 .. 20");
        for (int factor = 1; factor <= 20; factor++) {
            OrdinalRink x = won();
            int taken = factor;
            Check.takes("factor " + factor, () -> x.segment(0, SHORT, taken));
            for (int wrong : Check.beside(1, 20)) {
                Check.badArgument("factor " + wrong, () -> x.segment(0, SHORT, wrong));
            }
            x.publish(0);
            Check.is("factor " + factor, 2 * factor, x.total(0));
        }
    }

    private static void segmentPublished() {
        Check.sentence("(segment) IllegalState: it is PUBLISHED");
        OrdinalRink x = won();
        x.publish(1);
        Check.badState("published", () -> x.segment(1, FREE, 1));
        Check.is("its factor", 20, x.total(0));
        Check.takes("another one", () -> x.segment(0, FREE, 1));
        Check.takes("another one", () -> x.segment(2, FREE, 1));
    }

    private static void markInPlace() {
        Check.sentence("A mark, in place of the one that there was");
        OrdinalRink x = new OrdinalRink();
        x.mark(1, 2, 0, 60, 60);
        x.mark(1, 2, 1, 30, 30);
        Check.is("the greater one", 1, x.ordinal(1, 2, 0));
        x.mark(1, 2, 0, 0, 0);
        Check.is("0 0 in its place", 2, x.ordinal(1, 2, 0));
        x.mark(1, 2, 0, 30, 30);
        Check.is("the same in its place", 1, x.ordinal(1, 2, 0));
        Check.is("the same in its place", 1, x.ordinal(1, 2, 1));
    }

    private static void markNumbers() {
        Check.sentence("(mark) IllegalArgument: a number is not 0 .. 60");
        OrdinalRink x = Rinks.rink(10, 9);
        for (int number = 0; number <= 60; number++) {
            int taken = number;
            Check.takes("FIRST " + number, () -> x.mark(2, 8, 9, taken, 0));
            Check.takes("SECOND " + number, () -> x.mark(2, 8, 9, 60, taken));
        }
        for (int number : Check.beside(0, 60)) {
            Check.badArgument("FIRST " + number, () -> x.mark(2, 8, 9, number, 60));
            Check.badArgument("SECOND " + number, () -> x.mark(2, 8, 9, 0, number));
            Check.badArgument("both " + number, () -> x.mark(2, 8, 9, number, number));
        }
        for (int k = 0; k < 9; k++) {
            x.mark(2, 8, k, 60, 59);
        }
        Check.is("60 60 is what was taken last", 1, x.ordinal(2, 8, 9));
        Check.is("60 60 is what was taken last", 2, x.ordinal(2, 8, 0));
    }

    private static void markPublished() {
        Check.sentence("(mark) IllegalState: the segment is PUBLISHED");
        OrdinalRink x = won();
        Check.takes("open", () -> x.mark(1, 2, 1, 60, 60));
        x.publish(1);
        for (int j = 0; j < 3; j++) {
            int judge = j;
            Check.badState("published", () -> x.mark(1, judge, 1, 60, 60));
            Check.badState("published", () -> x.mark(1, judge, 0, 0, 0));
        }
        Check.is("the place", 4, x.placing(1, 1, 4));
        Check.takes("another one", () -> x.mark(0, 2, 1, 60, 60));
        Check.takes("another one", () -> x.mark(2, 2, 1, 60, 60));
    }

    private static void deductInPlace() {
        Check.sentence("in place of what was: that");
        OrdinalRink x = new OrdinalRink();
        int before = 0;
        for (int taken : new int[] {60, 0, 1, 59, 59, 0}) {
            Check.is("of FIRST", before, x.deduct(2, 1, 0, taken));
            Check.is("of SECOND", before, x.deduct(2, 1, 1, taken));
            before = taken;
        }
        Check.is("of another skater", 0, x.deduct(2, 0, 0, 0));
        Check.is("in another segment", 0, x.deduct(1, 1, 0, 0));
    }

    private static void deductWhich() {
        Check.sentence("IndexOutOfBounds, also if which is neither");
        OrdinalRink x = new OrdinalRink();
        Check.takes("FIRST", () -> x.deduct(0, 0, 0, 1));
        Check.takes("SECOND", () -> x.deduct(0, 0, 1, 2));
        for (int which : Check.beside(0, 1)) {
            Check.outOfBounds("which " + which, () -> x.deduct(0, 0, which, 3));
            Check.outOfBounds("which " + which + " and a wrong number", () -> x.deduct(0, 0, which, 61));
        }
        Check.is("FIRST is as told", 1, x.deduct(0, 0, 0, 0));
        Check.is("SECOND is as told", 2, x.deduct(0, 0, 1, 0));
    }

    private static void deductTenths() {
        Check.sentence("(deduct) IllegalArgument: it is not 0 .. 60");
        OrdinalRink x = new OrdinalRink();
        for (int which = 0; which < 2; which++) {
            int of = which;
            Check.takes("0", () -> x.deduct(1, 1, of, 0));
            Check.takes("60", () -> x.deduct(1, 1, of, 60));
            for (int tenths : Check.beside(0, 60)) {
                Check.badArgument("number " + tenths, () -> x.deduct(1, 1, of, tenths));
            }
            Check.is("60 stands", 60, x.deduct(1, 1, which, 0));
        }
    }

    private static void deductPublished() {
        Check.sentence("(deduct) IllegalState: the segment is PUBLISHED");
        OrdinalRink x = won();
        Check.is("open", 0, x.deduct(1, 1, 0, 3));
        x.publish(1);
        for (int which = 0; which < 2; which++) {
            int of = which;
            Check.badState("published", () -> x.deduct(1, 0, of, 60));
            Check.badState("published, the same", () -> x.deduct(1, 0, of, 0));
        }
        Check.is("the place", 2, x.placing(1, 0, 4));
        Check.is("another one", 0, x.deduct(0, 1, 0, 3));
        Check.is("another one", 0, x.deduct(2, 1, 0, 3));
    }

    private static void strikeAnswers() {
        Check.sentence("A judge is struck from a segment's panel, or back in it: how many the panel has");
        OrdinalRink x = Rinks.rink(2, 9);
        for (int j = 0; j < 6; j++) {
            Check.is("struck", 8 - j, x.strike(1, j, true));
            Check.is("struck already", 8 - j, x.strike(1, j, true));
        }
        Check.is("never struck", 3, x.strike(1, 8, false));
        for (int j = 0; j < 6; j++) {
            Check.is("back", 4 + j, x.strike(1, j, false));
            Check.is("back already", 4 + j, x.strike(1, j, false));
        }
        Check.is("another segment", 9, x.strike(0, 0, false));
        Check.is("another segment", 9, x.strike(2, 0, false));
    }

    private static void strikeThreeLeft() {
        Check.sentence("or fewer than 3 would be left");
        for (int judges = 3; judges <= 9; judges++) {
            OrdinalRink x = Rinks.rink(2, judges);
            for (int s = 0; s < 3; s++) {
                int segment = s;
                for (int j = judges - 1; j > 2; j--) {
                    Check.is("struck", j, x.strike(s, j, true));
                }
                for (int j = 0; j < 3; j++) {
                    int judge = j;
                    Check.badState("two would be left of " + judges, () -> x.strike(segment, judge, true));
                    Check.is("three are left", 3, x.strike(s, j, false));
                }
                if (judges > 3) {
                    Check.is("struck already, three are left", 3, x.strike(s, 3, true));
                    Check.is("back", 4, x.strike(s, 3, false));
                    Check.is("another one goes then", 3, x.strike(s, 0, true));
                }
            }
        }
    }

    private static void strikePublished() {
        Check.sentence("(strike) IllegalState: the segment is PUBLISHED");
        OrdinalRink x = Rinks.rink(2, 5);
        for (int s = 0; s < 3; s++) {
            Rinks.give(x, s, Rinks.row(1, 2), Rinks.row(1, 2), Rinks.row(1, 2), Rinks.row(1, 2), Rinks.row(2, 1));
        }
        Check.is("open", 4, x.strike(1, 4, true));
        x.publish(1);
        for (int j = 0; j < 5; j++) {
            int judge = j;
            Check.badState("published", () -> x.strike(1, judge, true));
            Check.badState("published, back", () -> x.strike(1, judge, false));
        }
        Check.is("the panel", 4, x.placing(1, 0, 3));
        Check.is("another one", 4, x.strike(0, 4, true));
        Check.is("another one", 4, x.strike(2, 4, true));
    }

    private static void withdrawAnswers() {
        Check.sentence("what was so told before (3 at first)");
        OrdinalRink x = Rinks.rink(10, 3);
        for (int k = 0; k < 10; k++) {
            int before = 3;
            for (int from : new int[] {0, 3, 2, 1, 1, 2, 0, 0, 3}) {
                Check.is("skater " + k, before, x.withdraw(k, from));
                before = from;
            }
        }
    }

    private static void withdrawSegments() {
        Check.sentence("IllegalArgument: segment is not 0 .. 3");
        OrdinalRink x = won();
        for (int from = 0; from <= 3; from++) {
            int taken = from;
            Check.takes("from " + from, () -> x.withdraw(0, taken));
            for (int wrong : Check.beside(0, 3)) {
                Check.badArgument("from " + wrong, () -> x.withdraw(0, wrong));
            }
            for (int s = 0; s < 3; s++) {
                Check.is("from " + from + ", segment " + s, s < from ? 1 : NONE, x.ordinal(s, 0, 0));
            }
        }
    }

    private static void withdrawPublished() {
        Check.sentence("IllegalState: the starters of a PUBLISHED segment would be others");
        for (int published = 0; published < 3; published++) {
            for (int from = 0; from <= 3; from++) {
                for (int to = 0; to <= 3; to++) {
                    OrdinalRink x = won();
                    int told = to;
                    x.withdraw(1, from);
                    x.publish(published);
                    String what = published + " is published, from " + from + " to " + to;
                    if (published < from == published < to) {
                        Check.is(what, from, x.withdraw(1, to));
                    } else {
                        Check.badState(what, () -> x.withdraw(1, told));
                        Check.is(what + " stays", from, x.withdraw(1, from));
                    }
                }
            }
        }
    }

    private static void ordinalOfStruck() {
        Check.sentence("A judge's ORDINAL for a skater (struck or not)");
        OrdinalRink x = Rinks.rink(2, 4);
        for (int j = 0; j < 4; j++) {
            x.mark(1, j, 0, 10, 10);
            x.mark(1, j, 1, 20, 20);
        }
        for (int told = 0; told < 2; told++) {
            x.strike(1, 3, told == 0);
            Check.is("the struck one's", 2, x.ordinal(1, 3, 0));
            Check.is("another one's", 2, x.ordinal(1, 2, 0));
        }
        x.strike(1, 3, true);
        x.publish(1);
        Check.is("published", 2, x.ordinal(1, 3, 0));
    }

    private static void ordinalNone() {
        Check.sentence("NONE if there is none, or the skater does not start");
        OrdinalRink x = Rinks.rink(3, 3);
        x.mark(1, 0, 0, 10, 10);
        x.mark(1, 0, 1, 20, 20);
        Check.is("a starter is not marked", NONE, x.ordinal(1, 0, 0));
        x.withdraw(2, 1);
        Check.is("all starters are marked", 2, x.ordinal(1, 0, 0));
        Check.is("it does not start", NONE, x.ordinal(1, 0, 2));
        x.mark(1, 0, 2, 30, 30);
        Check.is("it does not start, though marked", NONE, x.ordinal(1, 0, 2));
        Check.is("nor does it count", 2, x.ordinal(1, 0, 0));
        x.withdraw(2, 2);
        Check.is("it starts", 1, x.ordinal(1, 0, 2));
        Check.is("and counts", 3, x.ordinal(1, 0, 0));
    }

    private static void placingWhat() {
        Check.sentence("IndexOutOfBounds, also if what is not 0 .. 4");
        OrdinalRink x = won();
        int[] due = {1, 3, 3, 3, 2};
        for (int what = 0; what < 5; what++) {
            Check.is("what " + what, due[what], x.placing(1, 0, what));
        }
        for (int what : Check.beside(0, 4)) {
            Check.outOfBounds("what " + what, () -> x.placing(1, 0, what));
        }
        x.withdraw(0, 0);
        Check.is("it does not start", NONE, x.placing(1, 0, 4));
        Check.outOfBounds("it does not start", () -> x.placing(1, 0, 5));
        Check.outOfBounds("it does not start", () -> x.placing(1, 0, -1));
    }

    private static void placingNone() {
        Check.sentence("(placing) NONE if the segment is not COMPLETE, or it does not start");
        OrdinalRink x = Rinks.rink(2, 3);
        Rinks.give(x, 1, Rinks.row(1, 2), Rinks.row(1, 2), Rinks.row(1));
        for (int what = 0; what < 5; what++) {
            Check.is("a mark is missing", NONE, x.placing(1, 0, what));
        }
        x.mark(1, 2, 1, 0, 0);
        for (int what = 0; what < 5; what++) {
            Check.is("none is missing", what == 0 ? 1 : what == 4 ? 2 : 3, x.placing(1, 0, what));
        }
        x.withdraw(0, 1);
        for (int what = 0; what < 5; what++) {
            Check.is("it does not start", NONE, x.placing(1, 0, what));
            Check.is("the other does", what == 0 ? 1 : what == 4 ? 2 : 3, x.placing(1, 1, what));
        }
    }

    private static void stepTied() {
        Check.sentence("0 if they are TIED");
        OrdinalRink x = Rinks.rink(3, 4);
        Rinks.give(x, 1, Rinks.row(1, 2, 3), Rinks.row(1, 2, 3), Rinks.row(2, 1, 3), Rinks.row(2, 1, 3));
        Check.is("tied", 0, x.step(1, 0, 1));
        Check.is("tied", 0, x.step(1, 1, 0));
        Check.is("with itself", 0, x.step(1, 2, 2));
        x.mark(1, 3, 1, 48, 30);
        Check.is("three of four have a 1 now", 1, x.step(1, 0, 1));
        Check.is("not tied", 1, x.step(1, 0, 2));
    }

    private static void stepNone() {
        Check.sentence("(step) NONE if the segment is not COMPLETE, or one does not start");
        OrdinalRink x = Rinks.rink(3, 3);
        Rinks.give(x, 1, Rinks.row(1, 2, 3), Rinks.row(1, 2, 3), Rinks.row(1, 2));
        Check.is("a mark is missing", NONE, x.step(1, 0, 1));
        Check.is("a mark is missing", NONE, x.step(1, 0, 0));
        x.mark(1, 2, 2, 0, 0);
        Check.is("none is missing", 1, x.step(1, 0, 1));
        x.withdraw(2, 1);
        Check.is("both start", 1, x.step(1, 0, 1));
        Check.is("the other does not", NONE, x.step(1, 0, 2));
        Check.is("the one does not", NONE, x.step(1, 2, 0));
        Check.is("neither does", NONE, x.step(1, 2, 2));
    }

    /** Skaters 0 and 1 have a judge each; what judge 2 has for skater 1 decides. */
    private static OrdinalRink undecided(int kind, int first, int second) {
        OrdinalRink x = new OrdinalRink();
        x.segment(1, kind, 10);
        for (int k = 0; k < 2; k++) {
            x.mark(1, k, k, 60, 60);
            x.mark(1, 1 - k, k, 0, 0);
        }
        x.mark(1, 2, 1, first, second);
        return x;
    }

    private static void neededLeast() {
        Check.sentence("The least sum of two numbers 0 .. 60 with which");
        int[][] cases = {{FREE, 0, 0, 1}, {SHORT, 0, 0, 1}, {FREE, 1, 0, 1}, {FREE, 0, 1, 2}, {SHORT, 1, 0, 2},
            {SHORT, 0, 1, 1}, {FREE, 0, 60, 61}, {FREE, 1, 59, 60}, {FREE, 1, 60, 62}, {FREE, 2, 59, 61},
            {FREE, 60, 59, 119}, {FREE, 59, 60, 120}, {SHORT, 60, 59, 120}, {SHORT, 59, 60, 119},
            {FREE, 60, 60, NONE}, {SHORT, 60, 60, NONE}};
        for (int[] due : cases) {
            String what = "kind " + due[0] + ", before " + due[1] + " " + due[2];
            OrdinalRink x = undecided(due[0], due[1], due[2]);
            Check.is(what, due[3], x.needed(1, 0, 1));
            Check.is(what + " or behind", 0, x.needed(1, 0, 2));
        }
        for (int number = 0; number < 60; number++) {
            Check.is("before 0 " + number, number + 1, undecided(FREE, 0, number).needed(1, 0, 1));
            Check.is("before " + number + " 60", number + 61, undecided(FREE, number, 60).needed(1, 0, 1));
        }
        OrdinalRink x = Rinks.rink(3, 3);
        Rinks.give(x, 1, Rinks.row(1, 2, 3), Rinks.row(2, 1, 3), Rinks.row(2, 1, 3));
        Check.is("a place of 3 is not at most 2", 79, x.needed(1, 0, 1));
        Check.is("a place of 3 is at most 4", 0, x.needed(1, 0, 2));
        Check.is("two have it last", NONE, x.needed(1, 2, 1));
        Check.is("two have it last", NONE, x.needed(1, 2, 2));
        Check.is("it is last", 0, x.needed(1, 2, 3));
    }

    private static void neededJudge() {
        Check.sentence("as a mark of the judge of the panel with the greatest number");
        OrdinalRink x = Rinks.rink(2, 5);
        for (int j = 0; j < 5; j++) {
            x.mark(1, j, 0, j < 2 ? 60 : 0, 0);
            x.mark(1, j, 1, 10 + j, 0);
        }
        Check.is("judge 4", 14, x.needed(1, 0, 1));
        x.strike(1, 4, true);
        x.strike(1, 1, true);
        Check.is("judge 3 of 0, 2, 3", 13, x.needed(1, 0, 1));
        x.strike(1, 1, false);
        x.strike(1, 3, true);
        Check.is("judge 2 of 0, 1, 2", 0, x.needed(1, 0, 1));
        x.mark(1, 0, 0, 0, 0);
        Check.is("judge 2 decides", 12, x.needed(1, 0, 1));
    }

    private static void neededInPlace() {
        Check.sentence("(in place of the one that there is, or is not)");
        OrdinalRink x = undecided(FREE, 20, 20);
        Check.is("there is none", 40, x.needed(1, 0, 1));
        Check.is("nor is there then", NONE, x.ordinal(1, 2, 0));
        for (int number : new int[] {0, 20, 60}) {
            x.mark(1, 2, 0, number, number);
            Check.is("there is " + number, 40, x.needed(1, 0, 1));
            Check.is("it stays", number >= 20 ? 1 : 2, x.ordinal(1, 2, 0));
            Check.is("it stays", number <= 20 ? 1 : 2, x.ordinal(1, 2, 1));
        }
    }

    private static void neededNone() {
        Check.sentence("(needed) NONE if there is none, the skater does not start");
        OrdinalRink x = undecided(FREE, 60, 60);
        Check.is("a tie at most", NONE, x.needed(1, 0, 1));
        x.deduct(1, 1, 0, 1);
        Check.is("60 60 is before 59 60", 120, x.needed(1, 0, 1));
        x.deduct(1, 0, 0, 1);
        Check.is("59 60 is not", NONE, x.needed(1, 0, 1));
        x.withdraw(1, 1);
        Check.is("the only starter", 0, x.needed(1, 0, 1));
        x.mark(1, 2, 0, 5, 5);
        Check.is("it does not start", NONE, x.needed(1, 1, 10));
        x.withdraw(1, 2);
        Check.is("it starts", 0, x.needed(1, 1, 10));
    }

    private static void neededNotComplete() {
        Check.sentence("or the segment would not be COMPLETE even so");
        OrdinalRink x = Rinks.rink(3, 3);
        Rinks.give(x, 1, Rinks.row(1, 2, 3), Rinks.row(1, 2, 3));
        x.mark(1, 2, 0, 30, 30);
        Check.is("two are missing", NONE, x.needed(1, 2, 10));
        x.mark(1, 2, 1, 20, 20);
        Check.is("its own is missing", 0, x.needed(1, 2, 10));
        Check.is("another one's is missing", NONE, x.needed(1, 0, 10));
        x.mark(1, 2, 2, 0, 0);
        Check.is("none is missing", 0, x.needed(1, 0, 10));
        Check.is("nothing is marked", NONE, x.needed(2, 0, 10));
        OrdinalRink other = Rinks.rink(2, 3);
        Rinks.give(other, 1, Rinks.row(1, 2), Rinks.row(1), Rinks.row(1, 2));
        Check.is("another judge's is missing", NONE, other.needed(1, 1, 10));
    }

    private static void neededDeductions() {
        Check.sentence("a skater's DEDUCTIONS (two, at first 0) are taken from these, down to 0 at most");
        OrdinalRink x = undecided(FREE, 20, 20);
        Check.is("nothing is taken: 0 40", 40, x.needed(1, 0, 1));
        x.deduct(1, 0, 1, 5);
        Check.is("of 0 45 is left 0 40, of 41 0 is 41 0", 41, x.needed(1, 0, 1));
        x.deduct(1, 0, 0, 5);
        Check.is("of 0 45 is left 0 40", 45, x.needed(1, 0, 1));
        x.deduct(1, 0, 1, 60);
        Check.is("of 46 0 is left 41 0", 46, x.needed(1, 0, 1));
        x.deduct(1, 0, 0, 60);
        Check.is("of 60 60 is left 0 0", NONE, x.needed(1, 0, 1));
        Check.is("0 0 is enough to be second", 0, x.needed(1, 0, 2));
    }

    private static void neededPublished() {
        Check.sentence("NONE if there is none, the skater does not start, or the segment would not be COMPLETE"
                + " even so");
        OrdinalRink x = undecided(FREE, 20, 20);
        x.mark(1, 2, 0, 0, 0);
        Check.is("open", 40, x.needed(1, 0, 1));
        x.publish(1);
        Check.is("a PUBLISHED one is not among these", 40, x.needed(1, 0, 1));
        Check.is("its place stays", 4, x.placing(1, 0, 4));
        Check.is("its total stays", 40, x.total(0));
        Check.is("the other's total stays", 20, x.total(1));
    }

    private static void neededPlaces() {
        Check.sentence("(needed) IllegalArgument: place is not 1 .. 10");
        OrdinalRink x = Rinks.rink(10, 3);
        for (int j = 0; j < 3; j++) {
            for (int k = 0; k < 10; k++) {
                x.mark(2, j, k, 40 - k, 30);
            }
        }
        for (int place = 1; place <= 10; place++) {
            Check.is("place " + place, place == 10 ? 0 : NONE, x.needed(2, 9, place));
            Check.is("place " + place, 0, x.needed(2, 0, place));
        }
        for (int place : Check.beside(1, 10)) {
            Check.badArgument("place " + place, () -> x.needed(2, 9, place));
        }
        Check.badArgument("its double wraps to 2", () -> x.needed(2, 9, (1 << 30) + 1));
        Check.badArgument("its double wraps to 2", () -> x.needed(2, 9, Integer.MIN_VALUE + 1));
    }

    private static void publishStarters() {
        Check.sentence("The segment is PUBLISHED: how many starters it has");
        for (int starters = 1; starters <= 10; starters++) {
            OrdinalRink x = Rinks.rink(10, 3);
            for (int k = 0; k < 10; k++) {
                for (int j = 0; j < 3; j++) {
                    x.mark(2, j, k, k, k);
                }
                x.withdraw(k, k < starters ? 3 : 2);
            }
            Check.is("starters", starters, x.publish(2));
            Check.is("it counts", 20, x.total(starters - 1));
        }
    }

    private static void publishTwice() {
        Check.sentence("(publish) IllegalState: it is");
        OrdinalRink x = won();
        for (int s = 0; s < 3; s++) {
            int segment = s;
            Check.is("it is not", 2, x.publish(s));
            Check.badState("it is", () -> x.publish(segment));
        }
        Check.is("each once", 50, x.total(0));
    }

    private static void publishNotComplete() {
        Check.sentence("(publish) or is not COMPLETE");
        OrdinalRink x = Rinks.rink(2, 3);
        Rinks.give(x, 1, Rinks.row(1, 2), Rinks.row(1, 2), Rinks.row(1));
        Check.badState("a mark is missing", () -> x.publish(1));
        Check.is("it is open", NONE, x.rank(0));
        Check.takes("it is open", () -> x.mark(1, 2, 1, 0, 0));
        Check.is("none is missing", 2, x.publish(1));
        x.withdraw(0, 2);
        x.withdraw(1, 2);
        Check.badState("there are no starters", () -> x.publish(2));
        for (int s : Check.beside(0, 2)) {
            Check.outOfBounds("segment " + s, () -> x.publish(s));
        }
    }

    private static void totalOfNone() {
        Check.sentence("A skater's TOTAL");
        OrdinalRink x = won();
        x.withdraw(1, 1);
        Check.is("none is published", 0, x.total(1));
        x.publish(2);
        Check.is("it did not start the one that is", 0, x.total(1));
        x.publish(0);
        Check.is("it started this one", 20, x.total(1));
        for (int k : Check.beside(0, 1)) {
            Check.outOfBounds("skater " + k, () -> x.total(k));
        }
    }

    private static void rankOfNone() {
        Check.sentence("NONE if no segment is PUBLISHED");
        OrdinalRink x = won();
        x.withdraw(1, 1);
        Check.is("none", NONE, x.rank(0));
        Check.is("none", NONE, x.rank(1));
        x.publish(1);
        Check.is("one", 1, x.rank(0));
        Check.is("one, though it did not start it", 2, x.rank(1));
        x.event(2, 3);
        Check.is("none anew", NONE, x.rank(0));
        for (int k : Check.beside(0, 1)) {
            Check.outOfBounds("skater " + k, () -> x.rank(k));
        }
    }

    private static void proofInPlace() {
        Check.sentence("on the page, in place of what was there: how many characters");
        OrdinalRink x = Rinks.rink(10, 3);
        for (int j = 0; j < 3; j++) {
            for (int k = 0; k < 10; k++) {
                x.mark(1, j, k, 40 - k, 30);
            }
        }
        String[] due = {"0 1 3 3 3 2", "9 10 3 30 30 20", "4 5 3 15 15 10", "1 2 3 6 6 4", "3 4 3 12 12 8"};
        int[] skaters = {0, 9, 4, 1, 3};
        for (int k = 0; k < due.length; k++) {
            Check.is("how many", due[k].length(), x.proof(1, skaters[k]));
            Check.is("the page", due[k], Rinks.pageOf(x));
            Check.is("none is behind it", ' ', x.charAt(due[k].length()));
        }
    }

    private static void proofNone() {
        Check.sentence("(proof) IllegalState: the segment is not COMPLETE, or it does not start");
        OrdinalRink x = Rinks.rink(2, 3);
        Rinks.give(x, 1, Rinks.row(1, 2), Rinks.row(1, 2), Rinks.row(1));
        Check.badState("a mark is missing", () -> x.proof(1, 0));
        Check.is("the page is empty", 0, x.length());
        x.mark(1, 2, 1, 0, 0);
        Check.is("none is missing", 11, x.proof(1, 0));
        x.withdraw(1, 1);
        Check.badState("it does not start", () -> x.proof(1, 1));
        Check.is("the page stays", "0 1 3 3 3 2", Rinks.pageOf(x));
        x.withdraw(0, 1);
        Check.badState("nobody starts", () -> x.proof(1, 0));
        Check.is("the page stays", "0 1 3 3 3 2", Rinks.pageOf(x));
    }

    private static void typeCodes() {
        Check.sentence("false if it is not of codes 32 .. 126");
        for (int code = 0; code <= 0xFFFF; code++) {
            OrdinalRink x = new OrdinalRink();
            boolean due = code >= 32 && code <= 126;
            Check.is("code " + code, due ? 1 : 0, x.type((char) code) ? 1 : 0);
            boolean digit = code >= '0' && code <= '9';
            Check.is("code " + code + " in the text", digit ? -2 : -1, x.check(0));
        }
    }

    private static void typeForty() {
        Check.sentence("or there are 40");
        OrdinalRink x = new OrdinalRink();
        for (int round = 0; round < 2; round++) {
            for (int n = 1; n <= 40; n++) {
                Check.is("number " + n, 1, x.type('9') ? 1 : 0);
                Check.is("one that is none", 0, x.type((char) 127) ? 1 : 0);
            }
            Check.is("number 41", 0, x.type('9') ? 1 : 0);
            Check.is("number 41", 0, x.type(' ') ? 1 : 0);
            Check.is("four are a number", -5, x.check(2));
        }
    }

    private static void checkEmpties() {
        Check.sentence("Reads the text, which is empty then");
        OrdinalRink x = won();
        String[] lines = {"0 1 3 3 3 2", "0 1 3 3 3 3", "x", "0 1", ""};
        int[] due = {1, 0, -1, -4, -1};
        for (int k = 0; k < lines.length; k++) {
            Check.is(lines[k], due[k], Rinks.checked(x, 1, lines[k]));
            Check.is("empty after " + lines[k], -1, x.check(1));
            Check.is("a new one after " + lines[k], 1, Rinks.checked(x, 1, lines[0]));
        }
    }

    private static void checkAsItIs() {
        Check.sentence("1 if it is one of a skater's place in the segment as it is");
        OrdinalRink x = won();
        Check.is("the first", 1, Rinks.checked(x, 1, "0 1 3 3 3 2"));
        Check.is("the second", 1, Rinks.checked(x, 1, "1 2 3 6 6 4"));
        x.mark(1, 0, 1, 60, 60);
        Check.is("as it was", 0, Rinks.checked(x, 1, "0 1 3 3 3 2"));
        Check.is("as it is", 1, Rinks.checked(x, 1, "0 1 2 2 4 2"));
        Check.is("another segment", 1, Rinks.checked(x, 2, "0 1 3 3 3 2"));
        x.publish(1);
        Check.is("published", 1, Rinks.checked(x, 1, "0 1 2 2 4 2"));
        OrdinalRink most = Rinks.rink(10, 9);
        int[] order = Rinks.row(1, 2, 3, 4, 5, 6, 7, 8, 9, 10);
        Rinks.give(most, 0, order, order, order, order, order, order, order, order, order);
        Check.is("the greatest numbers", 1, Rinks.checked(most, 0, "9 10 9 90 90 20"));
        Check.is("one more in the last", 0, Rinks.checked(most, 0, "9 10 9 90 90 21"));
        Check.is("a skater behind the last", 0, Rinks.checked(most, 0, "10 10 9 90 90 20"));
    }

    private static void checkOfNone() {
        Check.sentence("0 if it is that of none");
        OrdinalRink x = won();
        String[] lines = {"0 1 3 3 3 2", "1 1 3 3 3 2", "2 1 3 3 3 2", "9999 1 3 3 3 2", "0 0 3 3 3 2", "0 2 3 3 3 2",
            "0 1 2 3 3 2", "0 1 4 3 3 2", "0 1 3 2 3 2", "0 1 3 4 3 2", "0 1 3 3 2 2", "0 1 3 3 4 2",
            "0 1 3 3 3 1", "0 1 3 3 3 3", "0 1 3 3 3 20", "0 0 0 0 0 0"};
        for (int k = 0; k < lines.length; k++) {
            Check.is(lines[k], k == 0 ? 1 : 0, Rinks.checked(x, 1, lines[k]));
        }
        x.withdraw(0, 1);
        Check.is("it does not start", 0, Rinks.checked(x, 1, lines[0]));
        Check.is("it starts", 1, Rinks.checked(x, 0, lines[0]));
        x.event(2, 3);
        Check.is("not complete", 0, Rinks.checked(x, 0, lines[0]));
    }

    /** The first character that is not of such a line, or the line's length. */
    private static void fault(String line, int due) {
        Check.is(line, -1 - due, Rinks.checked(new OrdinalRink(), 0, line));
    }

    private static void fits(String line) {
        Check.is(line, 0, Rinks.checked(new OrdinalRink(), 0, line));
    }

    private static void checkDigits() {
        Check.sentence("the beginning of any six numbers 0 .. 9999");
        fits("0 0 0 0 0 0");
        fits("9999 9999 9999 9999 9999 9999");
        fits("1000 100 10 1 0 9999");
        fault("10000 1 1 1 1 1", 4);
        fault("99999", 4);
        fault("4294967296 1 1 1 1 1", 4);
        fault("1 2 3 4 5 10000", 14);
        fault("9999 9999 9999 9999 9999 99990", 29);
        fault("-1 2 3 4 5 6", 0);
        fault("/ 2 3 4 5 6", 0);
        fault(": 2 3 4 5 6", 0);
        fault("1 2 3 4 5 a", 10);
        fault("1 2 3 4 5 6a", 11);
    }

    private static void checkZeros() {
        Check.sentence("without needless zeros");
        fits("0 10 100 1000 0 2020");
        fault("00 1 2 3 4 5", 1);
        fault("01 1 2 3 4 5", 1);
        fault("1 2 3 4 5 00", 11);
        fault("1 2 3 4 5 09", 11);
        fault("1 0 0 0 01 0", 9);
    }

    private static void checkSpaces() {
        Check.sentence("with one space between");
        fits("1 2 3 4 5 6");
        fault(" 1 2 3 4 5 6", 0);
        fault("1  2 3 4 5 6", 2);
        fault("1 2 3 4 5  6", 10);
        fault("1 2 3 4 5 6 ", 11);
        fault("1 2 3 4 5 6 7", 11);
        fault("1,2", 1);
    }

    private static void checkMissing() {
        Check.sentence("its length, if there is none such, but numbers are missing");
        String whole = "0 11 222 3333 44 5";
        for (int length = 0; length < whole.length(); length++) {
            fault(whole.substring(0, length), length);
        }
        fits(whole);
        fault("9999 9999 9999 9999 9999 ", 25);
    }

    private static void checkNoSegment() {
        Check.sentence("IndexOutOfBounds (and the text stays)");
        OrdinalRink x = won();
        Rinks.typeAll(x, "0 1 3 3 3 2");
        for (int s : Check.beside(0, 2)) {
            Check.outOfBounds("segment " + s, () -> x.check(s));
        }
        Check.is("the text stays", 1, x.check(2));
        for (int s : Check.beside(0, 2)) {
            Check.outOfBounds("segment " + s + ", empty", () -> x.check(s));
        }
        Check.is("the text stays empty", -1, x.check(0));
    }

    private static void lengthOfPage() {
        Check.sentence("How many characters the page has");
        OrdinalRink x = won();
        Check.is("none", 0, x.length());
        Rinks.typeAll(x, "0 1");
        Check.is("the text is not the page", 0, x.length());
        x.proof(0, 0);
        Check.is("a proof", 11, x.length());
        x.check(0);
        Check.is("a proof still", 11, x.length());
    }

    private static void charAtNone() {
        Check.sentence("Character p of the page; a space when there is none");
        OrdinalRink x = won();
        for (int p : new int[] {Integer.MIN_VALUE, -1, 0, 1, Integer.MAX_VALUE}) {
            Check.is("the empty page, " + p, ' ', x.charAt(p));
        }
        x.proof(0, 1);
        Check.is("the first", '1', x.charAt(0));
        Check.is("the last", '4', x.charAt(10));
        for (int p : Check.beside(0, 10)) {
            Check.is("there is none, " + p, ' ', x.charAt(p));
        }
    }
}
