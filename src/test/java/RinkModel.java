import java.util.ArrayList;
import java.util.List;

/** The document's words over again, in their plainest form and without regard to cost. */
final class RinkModel {
    private static final class Part {
        int kind;
        int factor;
        boolean published;
        int[][][] marks;
        int[][] deductions;
        boolean[] struck;
    }

    private int skaters;
    private int judges;
    private Part[] parts;
    private int[] outFrom;
    private String page = "";
    private String text = "";

    RinkModel() {
        event(2, 3);
    }

    private static IndexOutOfBoundsException index() {
        return new IndexOutOfBoundsException();
    }

    private static void argument(boolean good) {
        if (!good) {
            throw new IllegalArgumentException();
        }
    }

    private static void state(boolean good) {
        if (!good) {
            throw new IllegalStateException();
        }
    }

    private Part part(int s) {
        if (s < 0 || s > 2) {
            throw index();
        }
        return parts[s];
    }

    private void judge(int j) {
        if (j < 0 || j >= judges) {
            throw index();
        }
    }

    private void skater(int s) {
        if (s < 0 || s >= skaters) {
            throw index();
        }
    }

    void event(int newSkaters, int newJudges) {
        argument(newSkaters >= 2 && newSkaters <= 10 && newJudges >= 3 && newJudges <= 9);
        skaters = newSkaters;
        judges = newJudges;
        parts = new Part[3];
        outFrom = new int[skaters];
        java.util.Arrays.fill(outFrom, 3);
        for (int s = 0; s < 3; s++) {
            Part p = new Part();
            p.kind = s == 0 ? 0 : 1;
            p.factor = s == 0 ? 5 : 10;
            p.marks = new int[judges][skaters][];
            p.deductions = new int[skaters][2];
            p.struck = new boolean[judges];
            parts[s] = p;
        }
    }

    void segment(int s, int kind, int factor) {
        Part p = part(s);
        argument(kind == 0 || kind == 1);
        argument(factor >= 1 && factor <= 20);
        state(!p.published);
        p.kind = kind;
        p.factor = factor;
    }

    void mark(int s, int j, int k, int first, int second) {
        Part p = part(s);
        judge(j);
        skater(k);
        argument(first >= 0 && first <= 60 && second >= 0 && second <= 60);
        state(!p.published);
        p.marks[j][k] = new int[] {first, second};
    }

    int deduct(int s, int k, int which, int tenths) {
        Part p = part(s);
        skater(k);
        if (which < 0 || which > 1) {
            throw index();
        }
        argument(tenths >= 0 && tenths <= 60);
        state(!p.published);
        int was = p.deductions[k][which];
        p.deductions[k][which] = tenths;
        return was;
    }

    int strike(int s, int j, boolean is) {
        Part p = part(s);
        judge(j);
        state(!p.published);
        boolean was = p.struck[j];
        p.struck[j] = is;
        int left = panel(p).size();
        if (left < 3) {
            p.struck[j] = was;
            throw new IllegalStateException();
        }
        return left;
    }

    int withdraw(int k, int from) {
        skater(k);
        argument(from >= 0 && from <= 3);
        for (int s = 0; s < 3; s++) {
            state(!parts[s].published || (s < outFrom[k]) == (s < from));
        }
        int was = outFrom[k];
        outFrom[k] = from;
        return was;
    }

    private List<Integer> panel(Part p) {
        List<Integer> panel = new ArrayList<>();
        for (int j = 0; j < judges; j++) {
            if (!p.struck[j]) {
                panel.add(j);
            }
        }
        return panel;
    }

    private List<Integer> starters(int s) {
        List<Integer> starters = new ArrayList<>();
        for (int k = 0; k < skaters; k++) {
            if (s < outFrom[k]) {
                starters.add(k);
            }
        }
        return starters;
    }

    private boolean better(Part p, int j, int one, int other) {
        int[] a = new int[2];
        int[] b = new int[2];
        for (int w = 0; w < 2; w++) {
            a[w] = Math.max(0, p.marks[j][one][w] - p.deductions[one][w]);
            b[w] = Math.max(0, p.marks[j][other][w] - p.deductions[other][w]);
        }
        if (a[0] + a[1] != b[0] + b[1]) {
            return a[0] + a[1] > b[0] + b[1];
        }
        return p.kind == 0 ? a[0] > b[0] : a[1] > b[1];
    }

    int ordinal(int s, int j, int k) {
        Part p = part(s);
        judge(j);
        skater(k);
        List<Integer> starters = starters(s);
        if (!starters.contains(k)) {
            return -1;
        }
        int ordinal = 1;
        for (int other : starters) {
            if (p.marks[j][other] == null) {
                return -1;
            }
        }
        for (int other : starters) {
            if (better(p, j, other, k)) {
                ordinal++;
            }
        }
        return ordinal;
    }

    private boolean complete(int s) {
        List<Integer> starters = starters(s);
        for (int j : panel(parts[s])) {
            for (int k : starters) {
                if (parts[s].marks[j][k] == null) {
                    return false;
                }
            }
        }
        return !starters.isEmpty();
    }

    /** MAJORITY, COUNT, SUM, ALL. */
    private int[] figures(int s, int k) {
        List<Integer> panel = panel(parts[s]);
        int[] ordinals = new int[panel.size()];
        int all = 0;
        for (int n = 0; n < ordinals.length; n++) {
            ordinals[n] = ordinal(s, panel.get(n), k);
            all += ordinals[n];
        }
        for (int p = 1; ; p++) {
            int count = 0;
            int sum = 0;
            for (int o : ordinals) {
                if (o <= p) {
                    count++;
                    sum += o;
                }
            }
            if (count > ordinals.length / 2.0) {
                return new int[] {p, count, sum, all};
            }
        }
    }

    /** Less than 0: the one with figures a is before; the STEP is its absolute value. */
    private static int parts(int[] a, int[] b) {
        if (a[0] != b[0]) {
            return a[0] < b[0] ? -1 : 1;
        }
        if (a[1] != b[1]) {
            return a[1] > b[1] ? -2 : 2;
        }
        if (a[2] != b[2]) {
            return a[2] < b[2] ? -3 : 3;
        }
        if (a[3] != b[3]) {
            return a[3] < b[3] ? -4 : 4;
        }
        return 0;
    }

    private int place(int s, int k) {
        int[] own = figures(s, k);
        int before = 0;
        int tied = 0;
        for (int other : starters(s)) {
            if (other != k) {
                int parted = parts(figures(s, other), own);
                before += parted < 0 ? 1 : 0;
                tied += parted == 0 ? 1 : 0;
            }
        }
        return 2 + 2 * before + tied;
    }

    private boolean placed(int s, int k) {
        return complete(s) && starters(s).contains(k);
    }

    int placing(int s, int k, int what) {
        part(s);
        skater(k);
        if (what < 0 || what > 4) {
            throw index();
        }
        if (!placed(s, k)) {
            return -1;
        }
        return what == 4 ? place(s, k) : figures(s, k)[what];
    }

    int step(int s, int one, int other) {
        part(s);
        skater(one);
        skater(other);
        if (!placed(s, one) || !placed(s, other)) {
            return -1;
        }
        return Math.abs(parts(figures(s, one), figures(s, other)));
    }

    int needed(int s, int k, int place) {
        Part p = part(s);
        skater(k);
        argument(place >= 1 && place <= 10);
        List<Integer> panel = panel(p);
        int j = panel.get(panel.size() - 1);
        int[] own = p.marks[j][k];
        int least = -1;
        for (int sum = 0; sum <= 120 && least < 0; sum++) {
            for (int first = 0; first <= 60 && least < 0; first++) {
                if (sum - first >= 0 && sum - first <= 60) {
                    p.marks[j][k] = new int[] {first, sum - first};
                    if (!placed(s, k)) {
                        p.marks[j][k] = own;
                        return -1;
                    }
                    if (place(s, k) <= 2 * place) {
                        least = sum;
                    }
                }
            }
        }
        p.marks[j][k] = own;
        return least;
    }

    int publish(int s) {
        Part p = part(s);
        state(!p.published && complete(s));
        p.published = true;
        return starters(s).size();
    }

    int total(int k) {
        skater(k);
        int total = 0;
        for (int s = 0; s < 3; s++) {
            if (parts[s].published && s < outFrom[k]) {
                total += parts[s].factor * place(s, k);
            }
        }
        return total;
    }

    private int started(int k) {
        int started = 0;
        for (int s = 0; s < 3; s++) {
            started += parts[s].published && s < outFrom[k] ? 1 : 0;
        }
        return started;
    }

    private boolean ranksBefore(int one, int other) {
        if (started(one) != started(other)) {
            return started(one) > started(other);
        }
        if (total(one) != total(other)) {
            return total(one) < total(other);
        }
        int last = -1;
        for (int s = 0; s < 3; s++) {
            if (parts[s].published && parts[s].kind == 1) {
                last = s;
            }
        }
        return last >= 0 && last < outFrom[one] && last < outFrom[other] && place(last, one) < place(last, other);
    }

    int rank(int k) {
        skater(k);
        if (!parts[0].published && !parts[1].published && !parts[2].published) {
            return -1;
        }
        int rank = 1;
        for (int other = 0; other < skaters; other++) {
            rank += ranksBefore(other, k) ? 1 : 0;
        }
        return rank;
    }

    private String proofLine(int s, int k) {
        int[] f = figures(s, k);
        return k + " " + f[0] + " " + f[1] + " " + f[2] + " " + f[3] + " " + place(s, k);
    }

    int proof(int s, int k) {
        part(s);
        skater(k);
        state(placed(s, k));
        page = proofLine(s, k);
        return page.length();
    }

    boolean type(char c) {
        if (c < 32 || c > 126 || text.length() == 40) {
            return false;
        }
        text += c;
        return true;
    }

    /** The beginnings of lines of six numbers, and the whole ones, as patterns. */
    int check(int s) {
        part(s);
        String line = text;
        text = "";
        String number = "(0|[1-9][0-9]{0,3})";
        for (int p = 0; p < line.length(); p++) {
            if (!line.substring(0, p + 1).matches("(" + number + " ){0,5}" + number + "?")) {
                return -1 - p;
            }
        }
        if (!line.matches("(" + number + " ){5}" + number)) {
            return -1 - line.length();
        }
        for (int k = 0; k < skaters; k++) {
            if (placed(s, k) && proofLine(s, k).equals(line)) {
                return 1;
            }
        }
        return 0;
    }

    int length() {
        return page.length();
    }

    char charAt(int p) {
        return p < 0 || p >= page.length() ? ' ' : page.charAt(p);
    }
}
