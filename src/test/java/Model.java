import java.util.ArrayList;
import java.util.Arrays;
import java.util.List;

/**
 * The document once more, in another way: a pipe is a row of single measures of water, each with
 * its warmth, and a plug is as many like ones as stand together. Slow, but plain.
 */
final class Model {
    final List<Pipe> pipes = new ArrayList<>();
    final List<Draw> draws = new ArrayList<>();
    int now = 0;
    int heat = 6000;
    int air = 2000;
    long given = 0;
    long out = 0;
    long lost = 0;

    static final class Pipe {
        int from;
        int leads;
        int loop;
        boolean tap;
        int[] water;
        int lastFlow = Integer.MIN_VALUE;
        int tepid;
    }

    static final class Draw {
        int pipe;
        int minute;
        int volume;
        int[] taken;
    }

    long call(String name, int... a) {
        switch (name) {
            case "pipe": return addPipe(a[0], a[1], a[2]);
            case "tap": return addTap(a[0]);
            case "set": return change(a[0], a[1]);
            case "loop": return changeLoop(a[0], a[1]);
            case "draw": return addDraw(a[0], a[1], a[2]);
            case "run": return minutes(a[0]);
            case "plug": return plugAt(a[0], a[1], a[2]);
            case "told": return tell(a[0], a[1]);
            case "dead": return stands(a[0], a[1]);
            case "warm": return before(a[0], a[1]);
            case "drawn": return tellDraw(a[0], a[1]);
            case "heat": return sums(a[0]);
            default: return missed(a[0], a[1], a[2], a[3], a[4]);
        }
    }

    private static void argument(boolean good) {
        if (!good) {
            throw new IllegalArgumentException();
        }
    }

    private static void state(boolean good) {
        if (!good) {
            throw new IllegalStateException();
        }
    }

    private static boolean in(int x, int least, int most) {
        return least <= x && x <= most;
    }

    private boolean isPipe(int p) {
        return in(p, 0, pipes.size() - 1);
    }

    private int addPipe(int from, int volume, int leads) {
        argument((from == -1 || isPipe(from)) && in(volume, 1, 1000) && in(leads, 1, 1000));
        state(pipes.size() < 10 && now == 0);
        Pipe p = new Pipe();
        p.from = from;
        p.leads = leads;
        p.water = filled(volume, air);
        pipes.add(p);
        return pipes.size() - 1;
    }

    private int addTap(int p) {
        argument(isPipe(p));
        int isNew = pipes.get(p).tap ? 0 : 1;
        pipes.get(p).tap = true;
        return isNew;
    }

    private int change(int what, int warmth) {
        argument(in(what, 0, 1) && in(warmth, 0, 10000));
        int was = what == 0 ? heat : air;
        if (what == 0) {
            heat = warmth;
            return was;
        }
        air = warmth;
        for (Pipe p : pipes) {
            if (now == 0) {
                Arrays.fill(p.water, air);
            }
        }
        return was;
    }

    private int changeLoop(int p, int volume) {
        argument(isPipe(p) && in(volume, 0, 500));
        int was = pipes.get(p).loop;
        pipes.get(p).loop = volume;
        return was;
    }

    private int addDraw(int p, int minute, int volume) {
        argument(isPipe(p) && in(minute, 0, 2999) && in(volume, 1, 1000));
        state(pipes.get(p).tap && minute >= now && draws.size() < 60);
        Draw d = new Draw();
        d.pipe = p;
        d.minute = minute;
        d.volume = volume;
        draws.add(d);
        return draws.size() - 1;
    }

    private int minutes(int n) {
        argument(in(n, 1, 100));
        state(now + n <= 3000);
        for (int i = 0; i < n; i++) {
            for (Draw d : draws) {
                if (d.minute == now) {
                    d.taken = takeOut(d.pipe, d.volume);
                }
            }
            loopsAndCooling();
            now++;
        }
        return now;
    }

    private void loopsAndCooling() {
        for (int p = 0; p < pipes.size(); p++) {
            if (pipes.get(p).loop > 0) {
                takeOut(p, pipes.get(p).loop);
            }
        }
        for (Pipe p : pipes) {
            for (int i = 0; i < p.water.length; i++) {
                int less = (p.water[i] - air) / p.leads;
                p.water[i] -= less;
                lost += less;
            }
            int least = Arrays.stream(p.water).min().getAsInt();
            p.tepid += in(least, 2500, 4500) ? 1 : 0;
        }
    }

    private int[] takeOut(int p, int v) {
        int[] taken = take(p, v);
        out += sum(taken);
        return taken;
    }

    private int[] take(int number, int v) {
        if (number == -1) {
            given += (long) v * heat;
            return filled(v, heat);
        }
        Pipe p = pipes.get(number);
        int[] coming = take(p.from, v);
        int[] all = Arrays.copyOf(coming, v + p.water.length);
        System.arraycopy(p.water, 0, all, v, p.water.length);
        int room = p.water.length;
        p.water = Arrays.copyOfRange(all, 0, room);
        thin(p.water);
        p.lastFlow = now;
        return Arrays.copyOfRange(all, room, all.length);
    }

    private void thin(int[] water) {
        for (List<Integer> starts = starts(water); starts.size() - 1 > 12; starts = starts(water)) {
            int best = 0;
            for (int i = 1; i + 2 < starts.size(); i++) {
                if (gap(water, starts, i) < gap(water, starts, best)) {
                    best = i;
                }
            }
            int[] joined = Arrays.copyOfRange(water, starts.get(best), starts.get(best + 2));
            long sum = sum(joined);
            lost += sum % joined.length;
            Arrays.fill(water, starts.get(best), starts.get(best + 2), (int) (sum / joined.length));
        }
    }

    private static int gap(int[] water, List<Integer> starts, int i) {
        return Math.abs(water[starts.get(i)] - water[starts.get(i + 1)]);
    }

    /** Where the plugs of a row begin, and its end behind them. */
    private static List<Integer> starts(int[] water) {
        List<Integer> starts = new ArrayList<>();
        for (int i = 0; i < water.length; i++) {
            if (i == 0 || water[i] != water[i - 1]) {
                starts.add(i);
            }
        }
        starts.add(water.length);
        return starts;
    }

    private static int[] filled(int volume, int warmth) {
        int[] water = new int[volume];
        Arrays.fill(water, warmth);
        return water;
    }

    private static long sum(int[] water) {
        return Arrays.stream(water).asLongStream().sum();
    }

    private int plugAt(int p, int k, int what) {
        argument(isPipe(p) && k >= 0 && in(what, 0, 1));
        int[] water = pipes.get(p).water;
        List<Integer> starts = starts(water);
        if (k > starts.size() - 2) {
            return -1;
        }
        return what == 0 ? starts.get(k + 1) - starts.get(k) : water[starts.get(k)];
    }

    private int tell(int number, int what) {
        argument(isPipe(number) && in(what, 0, 3));
        Pipe p = pipes.get(number);
        switch (what) {
            case 0: return Arrays.stream(p.water).min().getAsInt();
            case 1: return Arrays.stream(p.water).max().getAsInt();
            case 2: return p.lastFlow < 0 ? now : now - 1 - p.lastFlow;
            default: return p.tepid;
        }
    }

    private int stands(int minutes, int k) {
        argument(minutes >= 0 && k >= 0);
        List<Integer> found = new ArrayList<>();
        for (int p = 0; p < pipes.size(); p++) {
            // Something flowed in the latest minutes if its minute is now - minutes or a later one.
            if (pipes.get(p).lastFlow < (long) now - minutes || pipes.get(p).lastFlow < 0) {
                found.add(p);
            }
        }
        return k < found.size() ? found.get(k) : -1;
    }

    private int before(int number, int warmth) {
        argument(isPipe(number) && in(warmth, 0, 10000));
        int measures = 0;
        for (int p = number; p != -1; p = pipes.get(p).from) {
            int[] water = pipes.get(p).water;
            for (int i = water.length - 1; i >= 0; i--, measures++) {
                if (water[i] >= warmth) {
                    return measures;
                }
            }
        }
        return heat >= warmth ? measures : -1;
    }

    private int tellDraw(int number, int what) {
        argument(in(number, 0, draws.size() - 1) && in(what, 0, 2));
        int[] taken = draws.get(number).taken;
        if (taken == null) {
            return -1;
        }
        switch (what) {
            case 0: return (int) (sum(taken) / taken.length);
            case 1: return Arrays.stream(taken).min().getAsInt();
            default: return Arrays.stream(taken).max().getAsInt();
        }
    }

    private long sums(int what) {
        argument(in(what, 0, 3));
        switch (what) {
            case 0: return pipes.stream().mapToLong(p -> sum(p.water)).sum();
            case 1: return given;
            case 2: return out;
            default: return lost;
        }
    }

    private int missed(int warmth, int volume, int minutes, int wanted, int k) {
        argument(in(warmth, 0, 10000) && in(volume, 1, 100) && in(minutes, 1, 30));
        argument(in(wanted, 0, 10000) && k >= 0);
        Model tried = copy();
        tried.heat = warmth;
        boolean[] comes = new boolean[pipes.size()];
        for (int i = 0; i < minutes; i++) {
            for (int p = 0; p < pipes.size(); p++) {
                if (pipes.get(p).tap) {
                    int[] taken = tried.takeOut(p, volume);
                    comes[p] |= Arrays.stream(taken).allMatch(w -> w >= wanted);
                }
            }
            tried.loopsAndCooling();
        }
        List<Integer> found = new ArrayList<>();
        for (int p = 0; p < pipes.size(); p++) {
            if (pipes.get(p).tap && !comes[p]) {
                found.add(p);
            }
        }
        return k < found.size() ? found.get(k) : -1;
    }

    private Model copy() {
        Model other = new Model();
        other.air = air;
        for (Pipe p : pipes) {
            Pipe q = new Pipe();
            q.from = p.from;
            q.leads = p.leads;
            q.loop = p.loop;
            q.tap = p.tap;
            q.water = p.water.clone();
            other.pipes.add(q);
        }
        return other;
    }
}
