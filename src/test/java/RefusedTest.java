import java.util.ArrayList;
import java.util.List;
import java.util.function.Consumer;
import java.util.function.IntSupplier;
import java.util.function.Supplier;

/**
 * 'A call that throws changes nothing; where it lists more than one exception, the first one
 * wins': each refused call on an object whose every answer is then laid beside those of a twin
 * that was not asked.
 */
public final class RefusedTest {
    private static final int SHORT = OrdinalRink.SHORT;
    private static final int FREE = OrdinalRink.FREE;
    private static final int MOST_CALLS = 512;
    /** As many at most make a state, read its page, or are tried on it. */
    private static final int OTHER_CALLS = 190;
    private static final Class<?> INDEX = IndexOutOfBoundsException.class;
    private static final Class<?> ARGUMENT = IllegalArgumentException.class;
    private static final Class<?> STATE = IllegalStateException.class;

    /** Marks of the same sum, so that one number more or less changes an ordinal. */
    private static final int[][] MARKS = {{30, 20}, {20, 30}, {25, 25}, {26, 24}, {22, 28}};

    private static Supplier<OrdinalRink> state;
    private static int skaters;
    private static int judges;
    private static List<String> untouched;

    public static void main(String[] args) {
        Check.sentence("A call that throws changes nothing");
        beginAt(RefusedTest::busy, 5, 4);
        toldNumbers();
        marks();
        panelAndStarters();
        closed();
        noPlaces();
        noSuchSegment();
        noSuchJudge();
        noSuchSkater();
        asked();
        beginAt(OrdinalRink::new, 2, 3);
        newObject();
        beginAt(RefusedTest::nobodyStarts, 2, 3);
        withoutStarters();
        Check.sentence("where it lists more than one exception, the first one wins");
        beginAt(RefusedTest::busy, 5, 4);
        firstWins();
        Check.end();
    }

    private static void beginAt(Supplier<OrdinalRink> made, int withSkaters, int withJudges) {
        state = made;
        skaters = withSkaters;
        judges = withJudges;
        untouched = everythingOf(state.get());
    }

    /**
     * Segment 0 is complete and open with a panel of three; 1 is published; 2 lacks a mark.
     * Skater 3 is withdrawn from 2 on, skater 4 from 1 on. The text is the proof on the page.
     */
    private static OrdinalRink busy() {
        OrdinalRink x = Rinks.rink(5, 4);
        for (int s = 0; s < 3; s++) {
            for (int j = 0; j < 4; j++) {
                for (int k = 0; k < 5; k++) {
                    int[] mark = MARKS[(s + 2 * j + k) % 5];
                    if (s != 2 || j != 2 || k != 1) {
                        x.mark(s, j, k, mark[0], mark[1]);
                    }
                }
            }
        }
        x.segment(0, SHORT, 7);
        x.segment(1, FREE, 11);
        x.deduct(0, 1, 0, 3);
        x.deduct(2, 0, 1, 4);
        x.strike(0, 3, true);
        x.withdraw(3, 2);
        x.withdraw(4, 1);
        x.publish(1);
        x.proof(1, 2);
        Rinks.typeAll(x, Rinks.pageOf(x));
        return x;
    }

    private static OrdinalRink nobodyStarts() {
        OrdinalRink x = new OrdinalRink();
        for (int s = 0; s < 3; s++) {
            Rinks.win(x, s, 1);
        }
        x.proof(2, 1);
        Rinks.typeAll(x, "1 2");
        x.withdraw(0, 0);
        x.withdraw(1, 0);
        return x;
    }

    private static void refused(String what, Class<?> due, Consumer<OrdinalRink> call) {
        OrdinalRink x = state.get();
        Check.throwsJust(what, due, () -> call.accept(x));
        same("after " + what, everythingOf(x));
    }

    private static void unchanged(String what, Consumer<OrdinalRink> call) {
        OrdinalRink x = state.get();
        Check.takes(what, () -> call.accept(x));
        same("after " + what, everythingOf(x));
    }

    private static void same(String what, List<String> got) {
        for (int k = 0; k < untouched.size(); k++) {
            if (!untouched.get(k).equals(got.get(k))) {
                Check.is(what, untouched.get(k), got.get(k));
                return;
            }
        }
    }

    /** All answers that tell of the object; some of the calls change it. */
    private static List<String> everythingOf(OrdinalRink x) {
        List<String> all = new ArrayList<>();
        all.add("page " + Rinks.pageOf(x));
        for (int s = 0; s < 3; s++) {
            addQuestions(all, x, s);
        }
        addRanks(all, x);
        add(all, "check", () -> x.check(1));
        for (int s = 0; s < 3; s++) {
            int segment = s;
            for (int j = 0; j < judges; j++) {
                int judge = j;
                add(all, "strike " + s + " " + j, () -> x.strike(segment, judge, false));
            }
            for (int k = 0; k < skaters; k++) {
                int skater = k;
                add(all, "deduct " + s + " " + k + " 0", () -> x.deduct(segment, skater, 0, 0));
                add(all, "deduct " + s + " " + k + " 1", () -> x.deduct(segment, skater, 1, 0));
            }
        }
        addWithdrawals(all, x);
        for (int s = 0; s < 3; s++) {
            addOrdinals(all, x, s);
        }
        addPublished(all, x);
        Check.is("too many calls", 0, Math.max(0, all.size() + OTHER_CALLS - MOST_CALLS));
        return all;
    }

    private static void addQuestions(List<String> all, OrdinalRink x, int s) {
        addOrdinals(all, x, s);
        for (int k = 0; k < skaters; k++) {
            for (int what = 0; what < 5; what++) {
                all.add("placing " + s + " " + k + " " + what + ": " + x.placing(s, k, what));
            }
            all.add("step " + s + " 0 " + k + ": " + x.step(s, 0, k));
            all.add("needed " + s + " " + k + ": " + x.needed(s, k, 1));
        }
    }

    private static void addOrdinals(List<String> all, OrdinalRink x, int s) {
        for (int j = 0; j < judges; j++) {
            for (int k = 0; k < skaters; k++) {
                all.add("ordinal " + s + " " + j + " " + k + ": " + x.ordinal(s, j, k));
            }
        }
    }

    private static void addRanks(List<String> all, OrdinalRink x) {
        for (int k = 0; k < skaters; k++) {
            all.add("total " + k + ": " + x.total(k));
            all.add("rank " + k + ": " + x.rank(k));
        }
    }

    /** Both calls may be refused where a segment is published. */
    private static void addWithdrawals(List<String> all, OrdinalRink x) {
        for (int k = 0; k < skaters; k++) {
            int skater = k;
            add(all, "withdraw " + k + " 1", () -> x.withdraw(skater, 1));
            add(all, "withdraw " + k + " 3", () -> x.withdraw(skater, 3));
        }
    }

    /** The factors show in the totals; the missing mark of segment 2 is made up for. */
    private static void addPublished(List<String> all, OrdinalRink x) {
        for (int j = 0; j < judges; j++) {
            x.mark(2, j, 1, 25, 25);
        }
        for (int s = 0; s < 3; s++) {
            int segment = s;
            add(all, "publish " + s, () -> x.publish(segment));
            addRanks(all, x);
        }
    }

    private static void add(List<String> all, String call, IntSupplier answer) {
        String got;
        try {
            got = Integer.toString(answer.getAsInt());
        } catch (RuntimeException e) {
            got = e.getClass().getName();
        }
        all.add(call + ": " + got);
    }

    private static void toldNumbers() {
        for (int n : Check.beside(2, 10)) {
            refused("event " + n + " 3", ARGUMENT, x -> x.event(n, 3));
            refused("event " + n + " 9", ARGUMENT, x -> x.event(n, 9));
        }
        for (int n : Check.beside(3, 9)) {
            refused("event 2 " + n, ARGUMENT, x -> x.event(2, n));
            refused("event 10 " + n, ARGUMENT, x -> x.event(10, n));
        }
        for (int kind : Check.beside(0, 1)) {
            refused("segment 0 " + kind, ARGUMENT, x -> x.segment(0, kind, 9));
            refused("segment 2 " + kind, ARGUMENT, x -> x.segment(2, kind, 9));
        }
        for (int factor : Check.beside(1, 20)) {
            refused("segment 0 FREE " + factor, ARGUMENT, x -> x.segment(0, FREE, factor));
            refused("segment 2 SHORT " + factor, ARGUMENT, x -> x.segment(2, SHORT, factor));
        }
        for (int place : Check.beside(1, 10)) {
            refused("needed 0 1 " + place, ARGUMENT, x -> x.needed(0, 1, place));
        }
    }

    private static void marks() {
        for (int number : Check.beside(0, 60)) {
            for (int k = 0; k < 5; k++) {
                int skater = k;
                refused("mark " + number + " 0", ARGUMENT, x -> x.mark(0, 1, skater, number, 0));
                refused("mark " + number + " 60", ARGUMENT, x -> x.mark(0, 1, skater, number, 60));
                refused("mark 0 " + number, ARGUMENT, x -> x.mark(0, 1, skater, 0, number));
                refused("mark 60 " + number, ARGUMENT, x -> x.mark(0, 1, skater, 60, number));
            }
            refused("a missing mark " + number, ARGUMENT, x -> x.mark(2, 2, 1, number, 5));
            refused("a missing mark 5 " + number, ARGUMENT, x -> x.mark(2, 2, 1, 5, number));
            refused("deduct 0 1 0 " + number, ARGUMENT, x -> x.deduct(0, 1, 0, number));
            refused("deduct 2 0 1 " + number, ARGUMENT, x -> x.deduct(2, 0, 1, number));
        }
        for (int which : Check.beside(0, 1)) {
            refused("deduct which " + which, INDEX, x -> x.deduct(0, 1, which, 9));
        }
        for (int what : Check.beside(0, 4)) {
            refused("placing what " + what, INDEX, x -> x.placing(0, 1, what));
        }
    }

    private static void panelAndStarters() {
        for (int j = 0; j < 3; j++) {
            int judge = j;
            refused("two would be left without " + j, STATE, x -> x.strike(0, judge, true));
        }
        for (int k = 0; k < 5; k++) {
            int skater = k;
            for (int segment : Check.beside(0, 3)) {
                refused("withdraw " + k + " " + segment, ARGUMENT, x -> x.withdraw(skater, segment));
            }
        }
        for (int k = 0; k < 4; k++) {
            int skater = k;
            refused("withdraw " + k + " 0, it started 1", STATE, x -> x.withdraw(skater, 0));
            refused("withdraw " + k + " 1, it started 1", STATE, x -> x.withdraw(skater, 1));
        }
        refused("withdraw 4 2, it did not start 1", STATE, x -> x.withdraw(4, 2));
        refused("withdraw 4 3, it did not start 1", STATE, x -> x.withdraw(4, 3));
    }

    private static void closed() {
        refused("segment published", STATE, x -> x.segment(1, SHORT, 3));
        refused("segment published, the same", STATE, x -> x.segment(1, FREE, 11));
        for (int k = 0; k < 5; k++) {
            int skater = k;
            refused("mark published, best", STATE, x -> x.mark(1, 0, skater, 60, 60));
            refused("mark published, worst", STATE, x -> x.mark(1, 3, skater, 0, 0));
            refused("deduct published, first", STATE, x -> x.deduct(1, skater, 0, 60));
            refused("deduct published, second", STATE, x -> x.deduct(1, skater, 1, 60));
        }
        refused("deduct published, the same", STATE, x -> x.deduct(1, 0, 0, 0));
        for (int j = 0; j < 4; j++) {
            int judge = j;
            refused("strike published", STATE, x -> x.strike(1, judge, true));
            refused("strike back published", STATE, x -> x.strike(1, judge, false));
        }
        refused("publish published", STATE, x -> x.publish(1));
    }

    private static void noPlaces() {
        refused("publish, not complete", STATE, x -> x.publish(2));
        for (int k = 0; k < 5; k++) {
            int skater = k;
            refused("proof, not complete", STATE, x -> x.proof(2, skater));
        }
        refused("proof, does not start", STATE, x -> x.proof(1, 4));
    }

    private static void noSuchSegment() {
        for (int s : Check.beside(0, 2)) {
            refused("segment of " + s, INDEX, x -> x.segment(s, FREE, 9));
            refused("mark in " + s, INDEX, x -> x.mark(s, 0, 0, 9, 9));
            refused("deduct in " + s, INDEX, x -> x.deduct(s, 0, 0, 9));
            refused("strike in " + s, INDEX, x -> x.strike(s, 0, true));
            refused("ordinal in " + s, INDEX, x -> x.ordinal(s, 0, 0));
            refused("placing in " + s, INDEX, x -> x.placing(s, 0, 0));
            refused("step in " + s, INDEX, x -> x.step(s, 0, 1));
            refused("needed in " + s, INDEX, x -> x.needed(s, 0, 1));
            refused("publish " + s, INDEX, x -> x.publish(s));
            refused("proof in " + s, INDEX, x -> x.proof(s, 0));
            refused("check in " + s + " (and the text stays)", INDEX, x -> x.check(s));
        }
    }

    private static void noSuchJudge() {
        for (int j : Check.beside(0, judges - 1)) {
            refused("mark by " + j, INDEX, x -> x.mark(0, j, 0, 9, 9));
            refused("strike " + j, INDEX, x -> x.strike(2, j, true));
            refused("strike back " + j, INDEX, x -> x.strike(0, j, false));
            refused("ordinal by " + j, INDEX, x -> x.ordinal(0, j, 0));
        }
    }

    private static void noSuchSkater() {
        for (int k : Check.beside(0, skaters - 1)) {
            refused("mark for " + k, INDEX, x -> x.mark(0, 0, k, 9, 9));
            refused("deduct of " + k, INDEX, x -> x.deduct(0, k, 0, 9));
            refused("withdraw " + k, INDEX, x -> x.withdraw(k, 2));
            refused("ordinal of " + k, INDEX, x -> x.ordinal(0, 0, k));
            refused("placing of " + k, INDEX, x -> x.placing(0, k, 0));
            refused("step of one " + k, INDEX, x -> x.step(0, k, 0));
            refused("step of other " + k, INDEX, x -> x.step(0, 0, k));
            refused("needed of " + k, INDEX, x -> x.needed(0, k, 1));
            refused("total of " + k, INDEX, x -> x.total(k));
            refused("rank of " + k, INDEX, x -> x.rank(k));
            refused("proof of " + k, INDEX, x -> x.proof(0, k));
        }
    }

    /** Calls that only answer leave all as it is too, and so do characters that are not taken. */
    private static void asked() {
        for (int code : new int[] {0, 31, 127, 128, 255, 256 + '0', 0xFFFF}) {
            unchanged("type " + code, x -> Check.is("type " + code, 0, x.type((char) code) ? 1 : 0));
        }
        for (int p : new int[] {-1, 0, 40}) {
            unchanged("charAt " + p, x -> x.charAt(p));
        }
        unchanged("length", x -> x.length());
        unchanged("ranks", x -> addRanks(new ArrayList<>(), x));
        for (int s = 0; s < 3; s++) {
            int segment = s;
            unchanged("questions of " + s, x -> addQuestions(new ArrayList<>(), x, segment));
            for (int k = 0; k < 5; k++) {
                int skater = k;
                unchanged("needed " + s + " " + k + " 10", x -> x.needed(segment, skater, 10));
            }
        }
    }

    private static void newObject() {
        for (int s = 0; s < 3; s++) {
            int segment = s;
            refused("publish " + s, STATE, x -> x.publish(segment));
            for (int j = 0; j < 3; j++) {
                int judge = j;
                refused("two would be left", STATE, x -> x.strike(segment, judge, true));
            }
            refused("proof 0", STATE, x -> x.proof(segment, 0));
            refused("proof 1", STATE, x -> x.proof(segment, 1));
            refused("check", INDEX, x -> x.check(3));
        }
        noSuchSegment();
        noSuchJudge();
        noSuchSkater();
    }

    private static void withoutStarters() {
        for (int s = 0; s < 3; s++) {
            int segment = s;
            refused("publish " + s, STATE, x -> x.publish(segment));
            refused("proof 0", STATE, x -> x.proof(segment, 0));
            refused("proof 1", STATE, x -> x.proof(segment, 1));
        }
    }

    private static void firstWins() {
        refused("segment, all three", INDEX, x -> x.segment(3, 2, 21));
        refused("segment, kind and published", ARGUMENT, x -> x.segment(1, 2, 11));
        refused("segment, factor and published", ARGUMENT, x -> x.segment(1, FREE, 0));
        refused("mark, no segment and a number", INDEX, x -> x.mark(-1, 0, 0, 61, 0));
        refused("mark, no judge and a number", INDEX, x -> x.mark(0, 4, 0, 61, 0));
        refused("mark, no skater and a number", INDEX, x -> x.mark(0, 0, 5, 0, 61));
        refused("mark, no judge, a number, published", INDEX, x -> x.mark(1, 4, 0, -1, 0));
        refused("mark, no skater and published", INDEX, x -> x.mark(1, 0, 5, 0, 0));
        refused("mark, first and published", ARGUMENT, x -> x.mark(1, 0, 0, 61, 0));
        refused("mark, second and published", ARGUMENT, x -> x.mark(1, 0, 0, 0, -1));
        refused("deduct, which and a number", INDEX, x -> x.deduct(0, 0, 2, 61));
        refused("deduct, no skater, a number, published", INDEX, x -> x.deduct(1, 5, 0, 61));
        refused("deduct, which and published", INDEX, x -> x.deduct(1, 0, -1, 5));
        refused("deduct, a number and published", ARGUMENT, x -> x.deduct(1, 0, 0, 61));
        refused("strike, no judge and published", INDEX, x -> x.strike(1, 4, true));
        refused("strike, no judge and three left", INDEX, x -> x.strike(0, -1, true));
        refused("withdraw, no skater and no segment", INDEX, x -> x.withdraw(5, 4));
        refused("withdraw, no segment and published", ARGUMENT, x -> x.withdraw(0, -1));
        refused("withdraw, no segment and published", ARGUMENT, x -> x.withdraw(4, 4));
        refused("needed, no segment and no place", INDEX, x -> x.needed(3, 0, 0));
        refused("needed, no skater and no place", INDEX, x -> x.needed(0, 5, 11));
        refused("needed, no place and does not start", ARGUMENT, x -> x.needed(1, 4, 0));
        refused("needed, no place and not complete", ARGUMENT, x -> x.needed(2, 0, 11));
        refused("placing, no what and not complete", INDEX, x -> x.placing(2, 0, 5));
        refused("step, no skater and not complete", INDEX, x -> x.step(2, 0, 5));
        refused("ordinal, no judge and does not start", INDEX, x -> x.ordinal(1, 4, 4));
        refused("proof, no skater and not complete", INDEX, x -> x.proof(2, 5));
        refused("publish, no segment", INDEX, x -> x.publish(3));
    }
}
