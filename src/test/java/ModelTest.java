import java.util.Arrays;
import java.util.Random;

/** Long runs of calls by a fixed rule, each answer held against the plain model. */
public final class ModelTest {
    private static final int RUNS = 300;
    // An object is used for 512 calls, of which the last ones read a row of up to 12 plugs.
    private static final int CALLS = 512 - (3 * 12 + 1);
    private static final int[] ODD = {Integer.MIN_VALUE, -2, -1, 0, 1, 10, 1001, 3000, 10001, Integer.MAX_VALUE};

    private final Random chance;
    private final HotLoops real = new HotLoops();
    private final Model model = new Model();
    private final String run;
    // Small volumes make many plugs, few odd arguments let a run get far.
    private final int widest;
    private final int longest;

    private ModelTest(int seed) {
        chance = new Random(seed);
        run = "run " + seed + ": ";
        widest = new int[] {3, 30, 200, 1000}[seed % 4];
        longest = new int[] {2, 5, 100}[seed % 3];
    }

    public static void main(String[] args) {
        int most = 0;
        for (int seed = 0; seed < RUNS; seed++) {
            most = Math.max(most, new ModelTest(seed).play());
        }
        Check.is("the fullest pipe's plugs in all runs", most, 12);
        Check.end();
    }

    private int play() {
        int most = 0;
        int asked = build();
        for (; asked < CALLS; asked++) {
            step();
        }
        int last = chance.nextInt(model.pipes.size());
        Check.same(run + "row " + last, Check.row(real, last), modelRow(last));
        for (int pipe = 0; pipe < model.pipes.size(); pipe++) {
            most = Math.max(most, modelRow(pipe).split(" ").length);
        }
        return most;
    }

    /** Chains and bushes of pipes: how many calls that took. */
    private int build() {
        int pipes = 1 + chance.nextInt(10);
        boolean chain = chance.nextBoolean();
        int calls = 0;
        for (int i = 0; i < pipes; i++) {
            ask("pipe", chain ? i - 1 : chance.nextInt(i + 1) - 1, 1 + chance.nextInt(widest), leads());
            calls++;
            if (chance.nextInt(3) > 0) {
                ask("tap", i);
                calls++;
            }
        }
        return calls;
    }

    private int leads() {
        return chance.nextBoolean() ? 1 + chance.nextInt(1000) : 1 + chance.nextInt(20);
    }

    private void step() {
        int pipe = number(model.pipes.size());
        switch (chance.nextInt(20)) {
            case 0: ask("pipe", pipe - 1, 1 + number(widest), 1 + number(1000)); break;
            case 1: ask("tap", pipe); break;
            case 2: case 3: case 4: ask("set", 0, warmth()); break;
            case 5: ask("set", number(2), warmth()); break;
            case 6: ask("loop", pipe, number(Math.min(501, widest))); break;
            case 7: case 8: ask("draw", pipe, Math.max(-1, model.now + number(4) - 1), 1 + number(widest)); break;
            case 9: case 10: case 11: case 12: ask("run", 1 + number(longest)); break;
            case 13: ask("plug", pipe, number(13), number(2)); break;
            case 14: ask("told", pipe, number(4)); break;
            case 15: ask("dead", number(5), number(11)); break;
            case 16: ask("warm", pipe, warmth()); break;
            case 17: ask("drawn", number(Math.max(1, model.draws.size())), number(3)); break;
            case 18: ask("heat", number(4)); break;
            default: ask("shock", warmth(), 1 + number(Math.min(100, widest)), 1 + number(30), warmth(), number(4));
        }
    }

    private int number(int bound) {
        return chance.nextInt(40) == 0 ? ODD[chance.nextInt(ODD.length)] : chance.nextInt(Math.max(1, bound));
    }

    private int warmth() {
        return chance.nextInt(3) == 0 ? number(10001) : number(1500) + 1500;
    }

    private void ask(String name, int... a) {
        String call = run + name + Arrays.toString(a);
        String due = Calls.answer(() -> model.call(name, a));
        Check.same(call, Calls.answer(() -> Calls.call(real, name, a)), due);
    }

    private String modelRow(int pipe) {
        StringBuilder text = new StringBuilder();
        for (int k = 0; model.call("plug", pipe, k, 0) != HotLoops.NONE; k++) {
            text.append(k == 0 ? "" : " ").append(model.call("plug", pipe, k, 0));
            text.append('@').append(model.call("plug", pipe, k, 1));
        }
        return text.toString();
    }
}
