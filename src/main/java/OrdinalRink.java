import java.util.Arrays;

/** The accounts of a skating event, from judges' marks to ranks. */
public final class OrdinalRink {
    public static final int SHORT = 0;
    public static final int FREE = 1;
    public static final int NONE = -1;

    private static final int SEGMENTS = 3;
    private static final int FEWEST_SKATERS = 2;
    private static final int MOST_SKATERS = 10;
    private static final int FEWEST_JUDGES = 3;
    private static final int MOST_JUDGES = 9;
    private static final int SMALLEST_PANEL = 3;
    private static final int HIGHEST_NUMBER = 60;
    private static final int SUMS = 2 * HIGHEST_NUMBER + 1;
    private static final int HIGHEST_FACTOR = 20;
    private static final int LOWEST_PLACE = 10;

    private static final int MAJORITY = 0;
    private static final int COUNT = 1;
    private static final int SUM = 2;
    private static final int ALL = 3;
    private static final int PLACE = 4;
    private static final int FIGURES = 5;

    private static final int PROOF_NUMBERS = 1 + FIGURES;
    private static final int TEXT_ROOM = 40;

    private final Segment[] segments = new Segment[SEGMENTS];
    private final StringBuilder page = new StringBuilder();
    private final StringBuilder text = new StringBuilder();
    private final ProofReader reader = new ProofReader();
    private int skaters;
    private int judges;

    public OrdinalRink() {
        for (int s = 0; s < SEGMENTS; s++) {
            segments[s] = new Segment();
        }
        openEvent(FEWEST_SKATERS, FEWEST_JUDGES);
    }

    public void event(int skaters, int judges) throws IllegalArgumentException {
        if (skaters < FEWEST_SKATERS || skaters > MOST_SKATERS) {
            throw new IllegalArgumentException("no event has so many skaters");
        }
        if (judges < FEWEST_JUDGES || judges > MOST_JUDGES) {
            throw new IllegalArgumentException("no event has so many judges");
        }
        openEvent(skaters, judges);
    }

    public void segment(int segment, int kind, int factor)
            throws IndexOutOfBoundsException, IllegalArgumentException, IllegalStateException {
        requireSegment(segment);
        if (kind != SHORT && kind != FREE) {
            throw new IllegalArgumentException("a segment is SHORT or FREE");
        }
        if (factor < 1 || factor > HIGHEST_FACTOR) {
            throw new IllegalArgumentException("a factor is 1 to 20");
        }
        requireOpen(segment);
        segments[segment].kind = kind;
        segments[segment].factor = factor;
    }

    public void mark(int segment, int judge, int skater, int first, int second)
            throws IndexOutOfBoundsException, IllegalArgumentException, IllegalStateException {
        requireSegment(segment);
        requireJudge(judge);
        requireSkater(skater);
        requireNumber(first);
        requireNumber(second);
        requireOpen(segment);
        segments[segment].setMark(judge, skater, first, second);
    }

    public int deduct(int segment, int skater, int which, int tenths)
            throws IndexOutOfBoundsException, IllegalArgumentException, IllegalStateException {
        requireSegment(segment);
        requireSkater(skater);
        if (which != 0 && which != 1) {
            throw new IndexOutOfBoundsException("a mark has numbers 0 and 1");
        }
        requireNumber(tenths);
        requireOpen(segment);
        return segments[segment].replaceDeduction(which, skater, tenths);
    }

    public int strike(int segment, int judge, boolean is)
            throws IndexOutOfBoundsException, IllegalStateException {
        requireSegment(segment);
        requireJudge(judge);
        requireOpen(segment);
        Segment told = segments[segment];
        if (is && !told.struck[judge] && told.panelSize() == SMALLEST_PANEL) {
            throw new IllegalStateException("a panel has three judges at least");
        }
        told.struck[judge] = is;
        return told.panelSize();
    }

    public int withdraw(int skater, int segment)
            throws IndexOutOfBoundsException, IllegalArgumentException, IllegalStateException {
        requireSkater(skater);
        if (segment < 0 || segment > SEGMENTS) {
            throw new IllegalArgumentException("a skater withdraws from 0 to 3 on");
        }
        if (changesPublishedStarters(skater, segment)) {
            throw new IllegalStateException("a published segment keeps its starters");
        }
        int before = firstSegmentWithout(skater);
        for (int s = 0; s < SEGMENTS; s++) {
            segments[s].starting[skater] = s < segment;
        }
        return before;
    }

    public int ordinal(int segment, int judge, int skater) throws IndexOutOfBoundsException {
        requireSegment(segment);
        requireJudge(judge);
        requireSkater(skater);
        return segments[segment].ordinalBy(judge, skater);
    }

    public int placing(int segment, int skater, int what) throws IndexOutOfBoundsException {
        requireSegment(segment);
        requireSkater(skater);
        if (what < 0 || what >= FIGURES) {
            throw new IndexOutOfBoundsException("figures are 0 to 4");
        }
        Segment asked = segments[segment];
        return asked.settlesFor(skater) ? asked.figures[what][skater] : NONE;
    }

    public int step(int segment, int one, int other) throws IndexOutOfBoundsException {
        requireSegment(segment);
        requireSkater(one);
        requireSkater(other);
        Segment asked = segments[segment];
        if (!asked.starting[other] || !asked.settlesFor(one)) {
            return NONE;
        }
        return asked.partingStep(one, other);
    }

    public int needed(int segment, int skater, int place)
            throws IndexOutOfBoundsException, IllegalArgumentException {
        requireSegment(segment);
        requireSkater(skater);
        if (place < 1 || place > LOWEST_PLACE) {
            throw new IllegalArgumentException("places are 1 to 10");
        }
        return segments[segment].leastSum(skater, 2 * place);
    }

    public int publish(int segment) throws IndexOutOfBoundsException, IllegalStateException {
        requireSegment(segment);
        requireOpen(segment);
        Segment ready = segments[segment];
        if (!ready.isComplete()) {
            throw new IllegalStateException("the segment is not complete");
        }
        ready.published = true;
        return ready.starterCount();
    }

    public int total(int skater) throws IndexOutOfBoundsException {
        requireSkater(skater);
        settlePublished();
        return settledTotal(skater);
    }

    public int rank(int skater) throws IndexOutOfBoundsException {
        requireSkater(skater);
        if (!settlePublished()) {
            return NONE;
        }
        int before = 0;
        for (int other = 0; other < skaters; other++) {
            if (ranksBefore(other, skater)) {
                before++;
            }
        }
        return 1 + before;
    }

    public int proof(int segment, int skater)
            throws IndexOutOfBoundsException, IllegalStateException {
        requireSegment(segment);
        requireSkater(skater);
        Segment asked = segments[segment];
        if (!asked.settlesFor(skater)) {
            throw new IllegalStateException("the skater has no place in the segment");
        }
        page.setLength(0);
        page.append(skater);
        for (int what = 0; what < FIGURES; what++) {
            page.append(' ').append(asked.figures[what][skater]);
        }
        return page.length();
    }

    public boolean type(char c) {
        if (c < 32 || c > 126 || text.length() >= TEXT_ROOM) {
            return false;
        }
        text.append(c);
        return true;
    }

    public int check(int segment) throws IndexOutOfBoundsException {
        requireSegment(segment);
        int fault = reader.firstFault(text);
        text.setLength(0);
        if (fault != NONE) {
            return -1 - fault;
        }
        return provesPlaceIn(segments[segment]) ? 1 : 0;
    }

    public int length() {
        return page.length();
    }

    public char charAt(int p) {
        return p >= 0 && p < page.length() ? page.charAt(p) : ' ';
    }

    private void openEvent(int skaters, int judges) {
        this.skaters = skaters;
        this.judges = judges;
        for (int s = 0; s < SEGMENTS; s++) {
            segments[s].reopen(skaters, judges);
            segments[s].kind = s == 0 ? SHORT : FREE;
            segments[s].factor = s == 0 ? 5 : 10;
        }
    }

    private void requireSegment(int segment) {
        if (segment < 0 || segment >= SEGMENTS) {
            throw new IndexOutOfBoundsException("there is no such segment");
        }
    }

    private void requireJudge(int judge) {
        if (judge < 0 || judge >= judges) {
            throw new IndexOutOfBoundsException("there is no such judge");
        }
    }

    private void requireSkater(int skater) {
        if (skater < 0 || skater >= skaters) {
            throw new IndexOutOfBoundsException("there is no such skater");
        }
    }

    private void requireNumber(int number) {
        if (number < 0 || number > HIGHEST_NUMBER) {
            throw new IllegalArgumentException("numbers are 0 to 60");
        }
    }

    private void requireOpen(int segment) {
        if (segments[segment].published) {
            throw new IllegalStateException("the segment is published");
        }
    }

    private boolean changesPublishedStarters(int skater, int from) {
        for (int s = 0; s < SEGMENTS; s++) {
            if (segments[s].published && segments[s].starting[skater] != (s < from)) {
                return true;
            }
        }
        return false;
    }

    private int firstSegmentWithout(int skater) {
        int s = 0;
        while (s < SEGMENTS && segments[s].starting[skater]) {
            s++;
        }
        return s;
    }

    /** False if no segment is PUBLISHED. A PUBLISHED one stays COMPLETE, so it has figures. */
    private boolean settlePublished() {
        boolean some = false;
        for (int s = 0; s < SEGMENTS; s++) {
            if (segments[s].published) {
                segments[s].settle();
                some = true;
            }
        }
        return some;
    }

    private int settledTotal(int skater) {
        int sum = 0;
        for (int s = 0; s < SEGMENTS; s++) {
            if (segments[s].published && segments[s].starting[skater]) {
                sum += segments[s].factor * segments[s].figures[PLACE][skater];
            }
        }
        return sum;
    }

    private int publishedStarts(int skater) {
        int starts = 0;
        for (int s = 0; s < SEGMENTS; s++) {
            if (segments[s].published && segments[s].starting[skater]) {
                starts++;
            }
        }
        return starts;
    }

    private boolean ranksBefore(int one, int other) {
        int moreStarts = publishedStarts(one) - publishedStarts(other);
        if (moreStarts != 0) {
            return moreStarts > 0;
        }
        int moreTotal = settledTotal(one) - settledTotal(other);
        if (moreTotal != 0) {
            return moreTotal < 0;
        }
        return winsLastFree(one, other);
    }

    private boolean winsLastFree(int one, int other) {
        for (int s = SEGMENTS - 1; s >= 0; s--) {
            Segment last = segments[s];
            if (last.published && last.kind == FREE) {
                return last.starting[one] && last.starting[other]
                        && last.figures[PLACE][one] < last.figures[PLACE][other];
            }
        }
        return false;
    }

    private boolean provesPlaceIn(Segment asked) {
        int skater = reader.numbers[0];
        if (skater >= skaters || !asked.settlesFor(skater)) {
            return false;
        }
        for (int what = 0; what < FIGURES; what++) {
            if (reader.numbers[1 + what] != asked.figures[what][skater]) {
                return false;
            }
        }
        return true;
    }

    /**
     * One segment: what was told of it, and rows for what follows from that. The rows are only
     * right after settle, since a change of what was told leaves them as they were.
     */
    private static final class Segment {
        private int kind;
        private int factor;
        private boolean published;
        private int skaters;
        private int judges;
        private final boolean[] starting = new boolean[MOST_SKATERS];
        private final boolean[] struck = new boolean[MOST_JUDGES];
        private final int[][] firsts = new int[MOST_JUDGES][MOST_SKATERS];
        private final int[][] seconds = new int[MOST_JUDGES][MOST_SKATERS];
        private final int[][] deductions = new int[2][MOST_SKATERS];
        private final int[] worths = new int[MOST_SKATERS];
        private final int[][] ordinals = new int[MOST_JUDGES][MOST_SKATERS];
        private final int[][] figures = new int[FIGURES][MOST_SKATERS];

        void reopen(int skaters, int judges) {
            this.skaters = skaters;
            this.judges = judges;
            published = false;
            for (int skater = 0; skater < MOST_SKATERS; skater++) {
                starting[skater] = skater < skaters;
            }
            for (int judge = 0; judge < MOST_JUDGES; judge++) {
                struck[judge] = false;
                Arrays.fill(firsts[judge], NONE);
                Arrays.fill(seconds[judge], NONE);
            }
            Arrays.fill(deductions[0], 0);
            Arrays.fill(deductions[1], 0);
        }

        void setMark(int judge, int skater, int first, int second) {
            firsts[judge][skater] = first;
            seconds[judge][skater] = second;
        }

        int replaceDeduction(int which, int skater, int tenths) {
            int before = deductions[which][skater];
            deductions[which][skater] = tenths;
            return before;
        }

        int panelSize() {
            int size = 0;
            for (int judge = 0; judge < judges; judge++) {
                if (!struck[judge]) {
                    size++;
                }
            }
            return size;
        }

        int starterCount() {
            int count = 0;
            for (int skater = 0; skater < skaters; skater++) {
                if (starting[skater]) {
                    count++;
                }
            }
            return count;
        }

        boolean isComplete() {
            for (int judge = 0; judge < judges; judge++) {
                if (!struck[judge] && !hasMarkedStarters(judge)) {
                    return false;
                }
            }
            return starterCount() > 0;
        }

        private boolean hasMarkedStarters(int judge) {
            for (int skater = 0; skater < skaters; skater++) {
                if (starting[skater] && firsts[judge][skater] == NONE) {
                    return false;
                }
            }
            return true;
        }

        int ordinalBy(int judge, int skater) {
            if (!starting[skater] || !hasMarkedStarters(judge)) {
                return NONE;
            }
            fillOrdinals(judge);
            return ordinals[judge][skater];
        }

        /** One number for a mark, so that the BETTER of two marks is the one that is worth more. */
        private int worth(int skater, int first, int second) {
            int netFirst = Math.max(0, first - deductions[0][skater]);
            int netSecond = Math.max(0, second - deductions[1][skater]);
            int deciding = kind == SHORT ? netFirst : netSecond;
            return (netFirst + netSecond) * (HIGHEST_NUMBER + 1) + deciding;
        }

        private void fillOrdinals(int judge) {
            for (int skater = 0; skater < skaters; skater++) {
                worths[skater] = worth(skater, firsts[judge][skater], seconds[judge][skater]);
            }
            for (int skater = 0; skater < skaters; skater++) {
                int better = 0;
                for (int other = 0; other < skaters; other++) {
                    if (starting[other] && worths[other] > worths[skater]) {
                        better++;
                    }
                }
                ordinals[judge][skater] = 1 + better;
            }
        }

        boolean settlesFor(int skater) {
            return starting[skater] && settle();
        }

        /** Works out all starters' figures; false, and no figures, if it is not COMPLETE. */
        boolean settle() {
            if (!isComplete()) {
                return false;
            }
            for (int judge = 0; judge < judges; judge++) {
                if (!struck[judge]) {
                    fillOrdinals(judge);
                }
            }
            int panel = panelSize();
            for (int skater = 0; skater < skaters; skater++) {
                fillMajority(skater, panel);
            }
            for (int skater = 0; skater < skaters; skater++) {
                fillPlace(skater);
            }
            return true;
        }

        private void fillMajority(int skater, int panel) {
            int majority = 1;
            while (majority < skaters && 2 * countUpTo(majority, skater) <= panel) {
                majority++;
            }
            figures[MAJORITY][skater] = majority;
            figures[COUNT][skater] = countUpTo(majority, skater);
            figures[SUM][skater] = sumUpTo(majority, skater);
            figures[ALL][skater] = sumUpTo(skaters, skater);
        }

        private int countUpTo(int limit, int skater) {
            int count = 0;
            for (int judge = 0; judge < judges; judge++) {
                if (!struck[judge] && ordinals[judge][skater] <= limit) {
                    count++;
                }
            }
            return count;
        }

        private int sumUpTo(int limit, int skater) {
            int sum = 0;
            for (int judge = 0; judge < judges; judge++) {
                if (!struck[judge] && ordinals[judge][skater] <= limit) {
                    sum += ordinals[judge][skater];
                }
            }
            return sum;
        }

        private void fillPlace(int skater) {
            int place = 2;
            for (int other = 0; other < skaters; other++) {
                if (starting[other] && other != skater) {
                    int step = partingStep(other, skater);
                    if (step == 0) {
                        place += 1;
                    } else if (isBeforeAt(step, other, skater)) {
                        place += 2;
                    }
                }
            }
            figures[PLACE][skater] = place;
        }

        int partingStep(int one, int other) {
            for (int what = MAJORITY; what <= ALL; what++) {
                if (figures[what][one] != figures[what][other]) {
                    return 1 + what;
                }
            }
            return 0;
        }

        private boolean isBeforeAt(int step, int one, int other) {
            int what = step - 1;
            return what == COUNT
                    ? figures[what][one] > figures[what][other]
                    : figures[what][one] < figures[what][other];
        }

        /**
         * A mark that is worth more never makes the skater's place worse, and a greater sum
         * allows a mark that is worth as much at least: so the sums that are too low come first,
         * and can be counted by halving.
         */
        int leastSum(int skater, int place) {
            if (!starting[skater]) {
                return NONE;
            }
            int judge = lastOfPanel();
            int first = firsts[judge][skater];
            int second = seconds[judge][skater];
            int tooLow = 0;
            for (int jump = 64; jump > 0; jump /= 2) {
                int sum = tooLow + jump - 1;
                if (sum < SUMS && !reaches(judge, skater, sum, place)) {
                    tooLow += jump;
                }
            }
            setMark(judge, skater, first, second);
            return tooLow < SUMS ? tooLow : NONE;
        }

        private int lastOfPanel() {
            int last = 0;
            for (int judge = 0; judge < judges; judge++) {
                if (!struck[judge]) {
                    last = judge;
                }
            }
            return last;
        }

        /** Leaves the mark that it tried in the place of the judge's own. */
        private boolean reaches(int judge, int skater, int sum, int place) {
            int first = bestFirst(skater, sum);
            setMark(judge, skater, first, sum - first);
            return settle() && figures[PLACE][skater] <= place;
        }

        /** The FIRST number of the mark that is worth most of those with this sum. */
        private int bestFirst(int skater, int sum) {
            int best = Math.max(0, sum - HIGHEST_NUMBER);
            int highest = Math.min(HIGHEST_NUMBER, sum);
            for (int first = best + 1; first <= highest; first++) {
                if (worth(skater, first, sum - first) > worth(skater, best, sum - best)) {
                    best = first;
                }
            }
            return best;
        }
    }

    /** Reads a line of six numbers, and keeps them. */
    private static final class ProofReader {
        private final int[] numbers = new int[PROOF_NUMBERS];

        /** NONE if the line has all the numbers; else where it ceases to be such a line. */
        int firstFault(StringBuilder line) {
            int at = 0;
            int digits = 0;
            numbers[0] = 0;
            for (int p = 0; p < line.length(); p++) {
                char c = line.charAt(p);
                if (c >= '0' && c <= '9' && canGrow(digits, numbers[at])) {
                    numbers[at] = 10 * numbers[at] + (c - '0');
                    digits++;
                } else if (c == ' ' && digits > 0 && at < PROOF_NUMBERS - 1) {
                    at++;
                    digits = 0;
                    numbers[at] = 0;
                } else {
                    return p;
                }
            }
            return at == PROOF_NUMBERS - 1 && digits > 0 ? NONE : line.length();
        }

        /** A number has four digits at most, and a zero in front would be needless. */
        private static boolean canGrow(int digits, int number) {
            return digits == 0 || digits < 4 && number != 0;
        }
    }
}
