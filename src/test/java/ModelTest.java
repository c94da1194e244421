import java.util.Random;
import java.util.function.Function;

/** Long runs of calls drawn with fixed seeds: the class answers each as the plain model does. */
public final class ModelTest {
    private static final int RUNS = 400;
    private static final int CALLS = 512;

    private final Random random;
    private final OrdinalRink rink = new OrdinalRink();
    private final RinkModel model = new RinkModel();
    private final int run;
    private int skaters = 2;
    private int judges = 3;
    private int highest = 60;
    private int calls = 0;

    private ModelTest(int run) {
        this.run = run;
        random = new Random(run);
    }

    public static void main(String[] args) {
        for (int run = 0; run < RUNS; run++) {
            new ModelTest(run).play();
        }
        Check.end();
    }

    private void play() {
        skaters = 2 + random.nextInt(random.nextBoolean() ? 9 : 3);
        judges = 3 + random.nextInt(random.nextBoolean() ? 7 : 3);
        highest = random.nextBoolean() ? 60 : 1 + random.nextInt(8);
        int newSkaters = skaters;
        int newJudges = judges;
        both("event(" + newSkaters + ", " + newJudges + ")",
                () -> rink.event(newSkaters, newJudges), () -> model.event(newSkaters, newJudges));
        while (calls < CALLS) {
            turn();
        }
    }

    private void turn() {
        int s = any(3);
        switch (random.nextInt(24)) {
            case 0 -> fill(random.nextInt(3));
            case 1 -> segment(s);
            case 2, 3 -> mark(s, any(judges), any(skaters), highest);
            case 4 -> deduct(s);
            case 5 -> strike(s);
            case 6 -> withdraw();
            case 7, 8 -> ordinal(s);
            case 9, 10, 11 -> placing(s);
            case 12, 13 -> step(s);
            case 14 -> needed(s);
            case 15 -> publish(s);
            case 16, 17 -> totals();
            case 18 -> proof(s);
            case 19 -> retype(s);
            case 20 -> scribble(s);
            case 21 -> typeAny();
            case 22 -> readPage();
            default -> rareEvent();
        }
    }

    /** Mostly an index below the bound, at times one beside it. */
    private int any(int bound) {
        return random.nextInt(40) == 0 ? (random.nextBoolean() ? -1 : bound) : random.nextInt(bound);
    }

    private void fill(int s) {
        for (int j = 0; j < judges; j++) {
            for (int k = 0; k < skaters; k++) {
                if (random.nextInt(200) > 0) {
                    mark(s, j, k, highest);
                }
            }
        }
    }

    private void segment(int s) {
        int kind = any(2);
        int factor = random.nextInt(4) == 0 ? random.nextInt(23) - 1 : 1 + random.nextInt(3);
        both("segment(" + s + ", " + kind + ", " + factor + ")",
                () -> rink.segment(s, kind, factor), () -> model.segment(s, kind, factor));
    }

    private void mark(int s, int j, int k, int most) {
        int first = any(most + 1);
        int second = any(most + 1);
        both("mark(" + s + ", " + j + ", " + k + ", " + first + ", " + second + ")",
                () -> rink.mark(s, j, k, first, second), () -> model.mark(s, j, k, first, second));
    }

    private void deduct(int s) {
        int k = any(skaters);
        int which = any(2);
        int tenths = random.nextInt(3) == 0 ? any(61) : any(highest);
        same("deduct(" + s + ", " + k + ", " + which + ", " + tenths + ")",
                x -> rink.deduct(s, k, which, tenths), x -> model.deduct(s, k, which, tenths));
    }

    private void strike(int s) {
        int j = any(judges);
        boolean is = random.nextBoolean();
        same("strike(" + s + ", " + j + ", " + is + ")",
                x -> rink.strike(s, j, is), x -> model.strike(s, j, is));
    }

    private void withdraw() {
        int k = any(skaters);
        int from = random.nextInt(4) > 0 ? 3 : any(4);
        same("withdraw(" + k + ", " + from + ")", x -> rink.withdraw(k, from), x -> model.withdraw(k, from));
    }

    private void ordinal(int s) {
        int j = any(judges);
        int k = any(skaters);
        same("ordinal(" + s + ", " + j + ", " + k + ")", x -> rink.ordinal(s, j, k), x -> model.ordinal(s, j, k));
    }

    private void placing(int s) {
        int k = any(skaters);
        int what = any(5);
        same("placing(" + s + ", " + k + ", " + what + ")",
                x -> rink.placing(s, k, what), x -> model.placing(s, k, what));
    }

    private void step(int s) {
        int one = any(skaters);
        int other = any(skaters);
        same("step(" + s + ", " + one + ", " + other + ")",
                x -> rink.step(s, one, other), x -> model.step(s, one, other));
    }

    private void needed(int s) {
        int k = any(skaters);
        int place = random.nextInt(6) == 0 ? random.nextInt(12) : 1 + random.nextInt(skaters);
        same("needed(" + s + ", " + k + ", " + place + ")",
                x -> rink.needed(s, k, place), x -> model.needed(s, k, place));
    }

    private void publish(int s) {
        if (random.nextInt(3) == 0) {
            same("publish(" + s + ")", x -> rink.publish(s), x -> model.publish(s));
        }
    }

    private void totals() {
        int k = any(skaters);
        same("total(" + k + ")", x -> rink.total(k), x -> model.total(k));
        same("rank(" + k + ")", x -> rink.rank(k), x -> model.rank(k));
    }

    private void proof(int s) {
        int k = any(skaters);
        same("proof(" + s + ", " + k + ")", x -> rink.proof(s, k), x -> model.proof(s, k));
    }

    /** Types what stands on the page, at times with one character changed, and has it read. */
    private void retype(int s) {
        int length = model.length();
        int changed = random.nextInt(3) > 0 ? -1 : random.nextInt(length + 1);
        for (int p = 0; p < length; p++) {
            type(p == changed ? (char) ('0' + random.nextInt(10)) : model.charAt(p));
        }
        check(s);
    }

    /** Types something that is like a line of numbers, and has it read. */
    private void scribble(int s) {
        int words = random.nextInt(8);
        for (int w = 0; w < words; w++) {
            String word = random.nextInt(12) == 0 ? "0" + random.nextInt(20) : "" + random.nextInt(12);
            word = random.nextInt(15) == 0 ? "" + random.nextInt(20000) : word;
            word = random.nextInt(30) == 0 ? "-x" : word;
            word = (w == 0 ? "" : " ") + word + (random.nextInt(20) == 0 ? " " : "");
            for (char c : word.toCharArray()) {
                type(c);
            }
        }
        check(s);
    }

    private void typeAny() {
        int times = random.nextInt(20) == 0 ? 45 : 1;
        for (int n = 0; n < times; n++) {
            type((char) random.nextInt(140));
        }
    }

    private void readPage() {
        int p = random.nextInt(22) - 3;
        same("length()", x -> rink.length(), x -> model.length());
        same("charAt(" + p + ")", x -> (int) rink.charAt(p), x -> (int) model.charAt(p));
    }

    private void type(char c) {
        same("type((char) " + (int) c + ")", x -> rink.type(c) ? 1 : 0, x -> model.type(c) ? 1 : 0);
    }

    private void check(int s) {
        same("check(" + s + ")", x -> rink.check(s), x -> model.check(s));
    }

    private void rareEvent() {
        if (random.nextInt(8) > 0) {
            return;
        }
        int newSkaters = 1 + random.nextInt(11);
        int newJudges = 2 + random.nextInt(9);
        both("event(" + newSkaters + ", " + newJudges + ")",
                () -> rink.event(newSkaters, newJudges), () -> model.event(newSkaters, newJudges));
        if (newSkaters >= 2 && newSkaters <= 10 && newJudges >= 3 && newJudges <= 9) {
            skaters = newSkaters;
            judges = newJudges;
        }
    }

    private void both(String call, Runnable real, Runnable plain) {
        same(call, x -> {
            real.run();
            return 0;
        }, x -> {
            plain.run();
            return 0;
        });
    }

    private void same(String call, Function<String, Integer> real, Function<String, Integer> plain) {
        calls++;
        Check.is("run " + run + ", call " + calls + ": " + call, outcome(plain, call), outcome(real, call));
    }

    private static String outcome(Function<String, Integer> answer, String call) {
        try {
            return answer.apply(call).toString();
        } catch (RuntimeException e) {
            return e.getClass().getName();
        }
    }
}
