/**
 * Hot water in pipes as plugs: draws and loops push rows of plugs through a tree of pipes,
 * minute by minute, and each plug cools. The promises stand in DOC.md.
 */
public final class HotLoops {
    /** There is none. */
    public static final int NONE = -1;

    private static final int MOST_PIPES = 10;
    private static final int MOST_PLUGS = 12;
    private static final int MOST_VOLUME = 1000;
    private static final int MOST_LEADS = 1000;
    private static final int MOST_WARMTH = 10000;
    private static final int MOST_LOOP = 500;
    private static final int MOST_DRAWS = 60;
    private static final int MOST_MINUTES = 3000;
    private static final int MOST_MINUTES_A_RUN = 100;
    private static final int MOST_SHOCK_VOLUME = 100;
    private static final int MOST_SHOCK_MINUTES = 30;
    private static final int FIRST_HEAT = 6000;
    private static final int FIRST_AIR = 2000;
    private static final int TEPID_FROM = 2500;
    private static final int TEPID_TO = 4500;

    // One plug from the heater, and then at most a full row more from each pipe on the way.
    private static final int MOST_ON_THE_WAY = 1 + MOST_PIPES * MOST_PLUGS;

    private final Net net;
    private final Water water;
    // A shock is tried on this one; it stands ready so that no call has to make rows.
    private final Water trial;
    private final Draws draws;
    private final boolean[] marked;

    public HotLoops() {
        net = new Net();
        water = new Water(net);
        trial = new Water(net);
        draws = new Draws();
        marked = new boolean[MOST_PIPES];
    }

    public int pipe(int from, int volume, int leads)
            throws IllegalArgumentException, IllegalStateException {
        if (from != NONE) {
            needPipe(from);
        }
        needWithin(volume, 1, MOST_VOLUME);
        needWithin(leads, 1, MOST_LEADS);
        if (net.count >= MOST_PIPES) {
            throw new IllegalStateException("there are 10 pipes");
        }
        if (water.minute > 0) {
            throw new IllegalStateException("a minute is over");
        }
        int pipe = net.add(from, volume, leads);
        water.fillWithAir(pipe);
        return pipe;
    }

    public boolean tap(int pipe) throws IllegalArgumentException {
        needPipe(pipe);
        boolean isNew = !net.tapped[pipe];
        net.tapped[pipe] = true;
        return isNew;
    }

    public int set(int what, int warmth) throws IllegalArgumentException {
        needWithin(what, 0, 1);
        needWithin(warmth, 0, MOST_WARMTH);
        return what == 0 ? water.changeHeat(warmth) : water.changeAir(warmth);
    }

    public int loop(int pipe, int volume) throws IllegalArgumentException {
        needPipe(pipe);
        needWithin(volume, 0, MOST_LOOP);
        int before = net.loops[pipe];
        net.loops[pipe] = volume;
        return before;
    }

    public int draw(int pipe, int minute, int volume)
            throws IllegalArgumentException, IllegalStateException {
        needPipe(pipe);
        needWithin(minute, 0, MOST_MINUTES - 1);
        needWithin(volume, 1, MOST_VOLUME);
        if (!net.tapped[pipe]) {
            throw new IllegalStateException("the pipe has no tap");
        }
        if (minute < water.minute) {
            throw new IllegalStateException("the minute is over");
        }
        if (draws.count >= MOST_DRAWS) {
            throw new IllegalStateException("there are 60 draws");
        }
        return draws.add(pipe, minute, volume);
    }

    public int run(int n) throws IllegalArgumentException, IllegalStateException {
        needWithin(n, 1, MOST_MINUTES_A_RUN);
        if (water.minute + n > MOST_MINUTES) {
            throw new IllegalStateException("there would be more than 3000 minutes");
        }
        for (int i = 0; i < n; i++) {
            takeDraws();
            water.endMinute();
        }
        return water.minute;
    }

    // ---- what there is

    public int plug(int pipe, int k, int what) throws IllegalArgumentException {
        needPipe(pipe);
        needNotBelowZero(k);
        needWithin(what, 0, 1);
        Plugs row = water.rows[pipe];
        if (k >= row.count) {
            return NONE;
        }
        return what == 0 ? row.volumes[k] : row.warmths[k];
    }

    public int told(int pipe, int what) throws IllegalArgumentException {
        needPipe(pipe);
        needWithin(what, 0, 3);
        switch (what) {
            case 0:
                return water.rows[pipe].least();
            case 1:
                return water.rows[pipe].greatest();
            case 2:
                return water.minutesSinceFlow(pipe);
            default:
                return water.tepidMinutes[pipe];
        }
    }

    public int dead(int minutes, int k) throws IllegalArgumentException {
        needNotBelowZero(minutes);
        needNotBelowZero(k);
        for (int pipe = 0; pipe < net.count; pipe++) {
            marked[pipe] = water.stoodStill(pipe, minutes);
        }
        return markedPipe(k);
    }

    public int warm(int pipe, int warmth) throws IllegalArgumentException {
        needPipe(pipe);
        needWithin(warmth, 0, MOST_WARMTH);
        return water.volumeBefore(pipe, warmth);
    }

    public int drawn(int draw, int what) throws IllegalArgumentException {
        needWithin(draw, 0, draws.count - 1);
        needWithin(what, 0, 2);
        if (draws.minutes[draw] >= water.minute) {
            return NONE;
        }
        switch (what) {
            case 0:
                return draws.means[draw];
            case 1:
                return draws.leasts[draw];
            default:
                return draws.greatests[draw];
        }
    }

    public long heat(int what) throws IllegalArgumentException {
        needWithin(what, 0, 3);
        switch (what) {
            case 0:
                return water.held();
            case 1:
                return water.given;
            case 2:
                return water.out;
            default:
                return water.lost;
        }
    }

    public int shock(int heat, int volume, int minutes, int wanted, int k)
            throws IllegalArgumentException {
        needWithin(heat, 0, MOST_WARMTH);
        needWithin(volume, 1, MOST_SHOCK_VOLUME);
        needWithin(minutes, 1, MOST_SHOCK_MINUTES);
        needWithin(wanted, 0, MOST_WARMTH);
        needNotBelowZero(k);
        markMissed(heat, volume, minutes, wanted);
        return markedPipe(k);
    }

    private void needPipe(int pipe) {
        if (pipe < 0 || pipe >= net.count) {
            throw new IllegalArgumentException("there is no such pipe");
        }
    }

    private static void needWithin(int number, int least, int most) {
        if (number < least || number > most) {
            throw new IllegalArgumentException("a number is out of its bounds");
        }
    }

    private static void needNotBelowZero(int number) {
        if (number < 0) {
            throw new IllegalArgumentException("a number is below 0");
        }
    }

    private void takeDraws() {
        for (int i = 0; i < draws.count; i++) {
            if (draws.minutes[i] == water.minute) {
                water.takeOut(draws.pipes[i], draws.volumes[i]);
                draws.keepAnswer(i, water.taken);
            }
        }
    }

    /** Marks the pipes to whose taps a shock does not come. */
    private void markMissed(int heat, int volume, int minutes, int wanted) {
        trial.copyFrom(water);
        trial.changeHeat(heat);
        for (int pipe = 0; pipe < net.count; pipe++) {
            marked[pipe] = net.tapped[pipe];
        }
        for (int i = 0; i < minutes; i++) {
            takeShock(volume, wanted);
            trial.endMinute();
        }
    }

    private void takeShock(int volume, int wanted) {
        for (int pipe = 0; pipe < net.count; pipe++) {
            if (net.tapped[pipe]) {
                trial.takeOut(pipe, volume);
                if (trial.taken.least() >= wanted) {
                    marked[pipe] = false;
                }
            }
        }
    }

    /** The k-th marked pipe, by numbers. */
    private int markedPipe(int k) {
        int before = 0;
        for (int pipe = 0; pipe < net.count; pipe++) {
            if (marked[pipe]) {
                if (before == k) {
                    return pipe;
                }
                before++;
            }
        }
        return NONE;
    }

    /** A row of plugs, from its beginning to its end. */
    private static final class Plugs {
        final int[] volumes;
        final int[] warmths;
        int count;

        Plugs(int most) {
            int room = Math.max(1, most);
            volumes = new int[room];
            warmths = new int[room];
        }

        /** Puts a plug behind the last one; of the same warmth they are one. */
        void add(int volume, int warmth) {
            if (volume < 1) {
                return;
            }
            if (count > 0 && warmths[count - 1] == warmth) {
                volumes[count - 1] += volume;
            } else if (count < volumes.length) { // rows are made for all that can come
                volumes[count] = volume;
                warmths[count] = warmth;
                count++;
            }
        }

        void addAll(Plugs other) {
            for (int i = 0; i < other.count; i++) {
                add(other.volumes[i], other.warmths[i]);
            }
        }

        void clear() {
            count = 0;
        }

        /** The first so much becomes the row front, what is behind it the row back. */
        void split(int frontVolume, Plugs front, Plugs back) {
            front.clear();
            back.clear();
            int open = frontVolume;
            for (int i = 0; i < count; i++) {
                int part = Math.min(open, volumes[i]);
                front.add(part, warmths[i]);
                back.add(volumes[i] - part, warmths[i]);
                open -= part;
            }
        }

        /** Joins the likest neighbours until there are 12 plugs: what is rounded away. */
        int thin() {
            int lost = 0;
            for (int tooMany = count - MOST_PLUGS; tooMany > 0; tooMany--) {
                lost += joinBehind(likest());
            }
            return lost;
        }

        /** The first plug of the two neighbours whose warmths differ least. */
        private int likest() {
            int best = 0;
            int bestGap = MOST_WARMTH + 1;
            for (int i = 0; i + 1 < count; i++) {
                int gap = Math.abs(warmths[i] - warmths[i + 1]);
                if (gap < bestGap) {
                    best = i;
                    bestGap = gap;
                }
            }
            return best;
        }

        /** Makes a plug and the one behind it one: what is rounded away. */
        private int joinBehind(int at) {
            if (at < 0 || at + 1 >= count) {
                return 0;
            }
            int volume = volumes[at] + volumes[at + 1];
            if (volume < 1) {
                return 0;
            }
            int sum = volumes[at] * warmths[at] + volumes[at + 1] * warmths[at + 1];
            volumes[at] = volume;
            warmths[at] = sum / volume;
            for (int i = at + 1; i + 1 < count; i++) {
                volumes[i] = volumes[i + 1];
                warmths[i] = warmths[i + 1];
            }
            count--;
            return sum % volume;
        }

        /** Lets each plug cool for a minute: what is lost. */
        long cool(int air, int leads) {
            int divisor = Math.max(1, leads);
            long lost = 0;
            int before = count;
            // The row is put together anew in its own place, so that like neighbours become one.
            clear();
            for (int i = 0; i < before; i++) {
                int less = (warmths[i] - air) / divisor;
                lost += (long) volumes[i] * less;
                add(volumes[i], warmths[i] - less);
            }
            return lost;
        }

        long volumeTimesWarmth() {
            long sum = 0;
            for (int i = 0; i < count; i++) {
                sum += (long) volumes[i] * warmths[i];
            }
            return sum;
        }

        int least() {
            int least = MOST_WARMTH;
            for (int i = 0; i < count; i++) {
                least = Math.min(least, warmths[i]);
            }
            return least;
        }

        int greatest() {
            int greatest = 0;
            for (int i = 0; i < count; i++) {
                greatest = Math.max(greatest, warmths[i]);
            }
            return greatest;
        }
    }

    /** The pipes as they were built, without their water. */
    private static final class Net {
        final int[] froms = new int[MOST_PIPES];
        final int[] volumes = new int[MOST_PIPES];
        final int[] leads = new int[MOST_PIPES];
        final int[] loops = new int[MOST_PIPES];
        final boolean[] tapped = new boolean[MOST_PIPES];
        int count;

        int add(int from, int volume, int lead) {
            if (count >= MOST_PIPES) {
                return NONE;
            }
            froms[count] = from;
            volumes[count] = volume;
            leads[count] = lead;
            count++;
            return count - 1;
        }
    }

    /** The draws that were told, and what came of those whose minute is over. */
    private static final class Draws {
        final int[] pipes = new int[MOST_DRAWS];
        final int[] minutes = new int[MOST_DRAWS];
        final int[] volumes = new int[MOST_DRAWS];
        final int[] means = new int[MOST_DRAWS];
        final int[] leasts = new int[MOST_DRAWS];
        final int[] greatests = new int[MOST_DRAWS];
        int count;

        int add(int pipe, int minute, int volume) {
            if (count >= MOST_DRAWS) {
                return NONE;
            }
            pipes[count] = pipe;
            minutes[count] = minute;
            volumes[count] = volume;
            count++;
            return count - 1;
        }

        void keepAnswer(int draw, Plugs taken) {
            if (draw < 0 || draw >= count) {
                return;
            }
            means[draw] = (int) (taken.volumeTimesWarmth() / Math.max(1, volumes[draw]));
            leasts[draw] = taken.least();
            greatests[draw] = taken.greatest();
        }
    }

    /** The water in all pipes of a net, and what its minutes did with it. */
    private static final class Water {
        final Net net;
        final Plugs[] rows = new Plugs[MOST_PIPES];
        final Plugs taken = new Plugs(MOST_ON_THE_WAY);
        final Plugs pushed = new Plugs(MOST_ON_THE_WAY);
        final Plugs rest = new Plugs(MOST_ON_THE_WAY);
        final int[] way = new int[MOST_PIPES];
        final int[] flowMinutes = new int[MOST_PIPES];
        final int[] tepidMinutes = new int[MOST_PIPES];
        int minute;
        int heat = FIRST_HEAT;
        int air = FIRST_AIR;
        long given;
        long out;
        long lost;

        Water(Net net) {
            this.net = net;
            for (int pipe = 0; pipe < MOST_PIPES; pipe++) {
                rows[pipe] = new Plugs(MOST_PLUGS);
                flowMinutes[pipe] = NONE;
            }
        }

        /** Takes over the rows and the air; a trial has a HEAT of its own and needs no past. */
        void copyFrom(Water other) {
            for (int pipe = 0; pipe < net.count; pipe++) {
                rows[pipe].clear();
                rows[pipe].addAll(other.rows[pipe]);
            }
            air = other.air;
        }

        int changeHeat(int warmth) {
            int before = heat;
            heat = warmth;
            return before;
        }

        int changeAir(int warmth) {
            int before = air;
            air = warmth;
            if (minute == 0) {
                for (int pipe = 0; pipe < net.count; pipe++) {
                    fillWithAir(pipe);
                }
            }
            return before;
        }

        void fillWithAir(int pipe) {
            if (pipe >= 0 && pipe < net.count) {
                rows[pipe].clear();
                rows[pipe].add(net.volumes[pipe], air);
            }
        }

        /** Takes a volume at a pipe's end, out of the pipes; it stands in taken then. */
        void takeOut(int pipe, int volume) {
            taken.clear();
            taken.add(volume, heat);
            given += taken.volumeTimesWarmth();
            for (int i = findWay(pipe) - 1; i >= 0; i--) {
                pushThrough(way[i]);
            }
            out += taken.volumeTimesWarmth();
        }

        /** Writes the pipes from one back to the heater into way: how many they are. */
        private int findWay(int pipe) {
            int length = 0;
            int at = pipe;
            while (length < MOST_PIPES && at >= 0 && at < net.count) {
                way[length] = at;
                length++;
                at = net.froms[at];
            }
            return length;
        }

        /** Pushes what was taken into a pipe; what it drives out at the end is taken then. */
        private void pushThrough(int pipe) {
            Plugs row = rows[pipe];
            pushed.clear();
            pushed.addAll(taken);
            pushed.addAll(row);
            pushed.split(net.volumes[pipe], rest, taken);
            lost += rest.thin();
            row.clear();
            row.addAll(rest);
            flowMinutes[pipe] = minute;
        }

        /** What comes in a minute behind its draws. */
        void endMinute() {
            for (int pipe = 0; pipe < net.count; pipe++) {
                if (net.loops[pipe] > 0) {
                    takeOut(pipe, net.loops[pipe]);
                }
            }
            for (int pipe = 0; pipe < net.count; pipe++) {
                lost += rows[pipe].cool(air, net.leads[pipe]);
                int least = rows[pipe].least();
                if (least >= TEPID_FROM && least <= TEPID_TO) {
                    tepidMinutes[pipe]++;
                }
            }
            minute++;
        }

        int minutesSinceFlow(int pipe) {
            // NONE stands one before minute 0, so that all minutes count if nothing ever flowed.
            return minute - 1 - flowMinutes[pipe];
        }

        boolean stoodStill(int pipe, int minutes) {
            return flowMinutes[pipe] == NONE || minutesSinceFlow(pipe) >= minutes;
        }

        /** What comes at a pipe's end before so warm a plug does. */
        int volumeBefore(int pipe, int warmth) {
            int sum = 0;
            int length = findWay(pipe);
            for (int i = 0; i < length; i++) {
                Plugs row = rows[way[i]];
                for (int k = row.count - 1; k >= 0; k--) {
                    if (row.warmths[k] >= warmth) {
                        return sum;
                    }
                    sum += row.volumes[k];
                }
            }
            return heat >= warmth ? sum : NONE;
        }

        long held() {
            long sum = 0;
            for (int pipe = 0; pipe < net.count; pipe++) {
                sum += rows[pipe].volumeTimesWarmth();
            }
            return sum;
        }
    }
}
