/** Promises 8 to 13: what there is. */
public final class AnswersTest {
    private static final int MAX = Integer.MAX_VALUE;

    public static void main(String[] args) {
        promise8Plugs();
        promise9Told();
        promise9Tepid();
        promise10Dead();
        promise10NothingEverFlowed();
        promise11Warm();
        promise12Drawn();
        promise13Heat();
        Check.end();
    }

    /** Pipes 1 and 2 go on from the end of 0; 1 and 2 have taps. */
    private static HotLoops fork() {
        HotLoops x = new HotLoops();
        x.pipe(HotLoops.NONE, 10, 1000);
        x.pipe(0, 20, 1000);
        x.pipe(0, 30, 1000);
        x.tap(1);
        x.tap(2);
        return x;
    }

    private static void promise8Plugs() {
        HotLoops x = fork();
        x.draw(1, 0, 15);
        x.run(1);
        Check.is("plug(1, 0, 0)", x.plug(1, 0, 0), 5);
        Check.is("plug(1, 0, 1)", x.plug(1, 0, 1), 5996);
        Check.is("plug(1, 1, 0)", x.plug(1, 1, 0), 15);
        Check.is("plug(1, 1, 1)", x.plug(1, 1, 1), 2000);
        Check.is("plug(1, 2, 0)", x.plug(1, 2, 0), HotLoops.NONE);
        Check.is("plug(1, 2, 1)", x.plug(1, 2, 1), HotLoops.NONE);
        Check.is("plug(1, 12, 0)", x.plug(1, 12, 0), HotLoops.NONE);
        Check.is("plug(1, MAX, 1)", x.plug(1, MAX, 1), HotLoops.NONE);
    }

    private static void promise9Told() {
        HotLoops x = fork();
        for (int what = 0; what < 2; what++) {
            Check.is("told(1, " + what + ") at first", x.told(1, what), 2000);
        }
        Check.is("told(1, 2) at first", x.told(1, 2), 0);
        x.draw(1, 1, 15);
        x.run(1);
        Check.is("told(1, 2) when nothing flowed", x.told(1, 2), 1);
        x.run(1);
        Check.is("told(1, 0)", x.told(1, 0), 2000);
        Check.is("told(1, 1)", x.told(1, 1), 5996);
        Check.is("told(0, 0)", x.told(0, 0), 5996);
        Check.is("told(0, 2) in the latest one", x.told(0, 2), 0);
        Check.is("told(1, 2) in the latest one", x.told(1, 2), 0);
        Check.is("told(2, 2) of the other", x.told(2, 2), 2);
        x.run(3);
        Check.is("told(0, 2) then", x.told(0, 2), 3);
        Check.is("told(2, 2) then", x.told(2, 2), 5);
    }

    private static void promise9Tepid() {
        int[] airs = {2499, 2500, 4500, 4501};
        int[] dues = {0, 3, 3, 0};
        for (int i = 0; i < airs.length; i++) {
            HotLoops x = fork();
            x.set(1, airs[i]);
            Check.is("told(0, 3) before a minute", x.told(0, 3), 0);
            x.run(3);
            Check.is("told(0, 3) at " + airs[i], x.told(0, 3), dues[i]);
        }
        // The least warm plug counts, at the minute's end.
        HotLoops x = new HotLoops();
        x.pipe(HotLoops.NONE, 10, 2);
        x.tap(0);
        x.set(0, 8000);
        x.draw(0, 0, 5);
        x.draw(0, 1, 10);
        x.run(1);
        Check.is("told(0, 1)", x.told(0, 1), 5000);
        Check.is("told(0, 3) with cold water too", x.told(0, 3), 0);
        x.run(1);
        Check.is("told(0, 3) at 5000", x.told(0, 3), 0);
        x.run(5);
        Check.is("told(0, 3) at 3500, 2750, 2375 ..", x.told(0, 3), 2);
    }

    private static void promise10Dead() {
        HotLoops x = fork();
        x.draw(1, 0, 5);
        x.draw(2, 1, 5);
        x.run(3);
        // Pipes 0 and 2 stand since one minute, pipe 1 since two.
        Check.is("dead(0, 0)", x.dead(0, 0), 0);
        Check.is("dead(0, 2)", x.dead(0, 2), 2);
        Check.is("dead(0, 3)", x.dead(0, 3), HotLoops.NONE);
        Check.is("dead(1, 0)", x.dead(1, 0), 0);
        Check.is("dead(1, 1)", x.dead(1, 1), 1);
        Check.is("dead(1, 2)", x.dead(1, 2), 2);
        Check.is("dead(2, 0)", x.dead(2, 0), 1);
        Check.is("dead(2, 1)", x.dead(2, 1), HotLoops.NONE);
        Check.is("dead(3, 0)", x.dead(3, 0), HotLoops.NONE);
        Check.is("dead(MAX, 0)", x.dead(MAX, 0), HotLoops.NONE);
        Check.is("dead(0, MAX)", x.dead(0, MAX), HotLoops.NONE);
    }

    private static void promise10NothingEverFlowed() {
        HotLoops x = fork();
        Check.is("dead(5, 2) before a minute", x.dead(5, 2), 2);
        x.draw(1, 0, 5);
        x.run(1);
        Check.is("dead(1, 0)", x.dead(1, 0), 2);
        Check.is("dead(2, 0) with one minute over", x.dead(2, 0), 2);
        Check.is("dead(MAX, 0)", x.dead(MAX, 0), 2);
        Check.is("dead(MAX, 1)", x.dead(MAX, 1), HotLoops.NONE);
    }

    private static void promise11Warm() {
        HotLoops x = fork();
        Check.is("warm(1, 0)", x.warm(1, 0), 0);
        Check.is("warm(1, 2000)", x.warm(1, 2000), 0);
        Check.is("warm(1, 2001)", x.warm(1, 2001), 30);
        Check.is("warm(2, 6000)", x.warm(2, 6000), 40);
        Check.is("warm(2, 6001)", x.warm(2, 6001), HotLoops.NONE);
        Check.is("warm(2, 10000)", x.warm(2, 10000), HotLoops.NONE);
        x.draw(1, 0, 15);
        x.run(1);
        x.set(0, 5000);
        Check.is("warm(1, 5996) in the pipe", x.warm(1, 5996), 15);
        Check.is("warm(1, 5997)", x.warm(1, 5997), HotLoops.NONE);
        Check.is("warm(2, 5996) in the one before", x.warm(2, 5996), 30);
        Check.is("warm(2, 2001)", x.warm(2, 2001), 30);
        x.set(0, 10000);
        Check.is("warm(2, 10000) in the heater", x.warm(2, 10000), 40);
        Check.is("warm(0, 5997) in the heater", x.warm(0, 5997), 10);
    }

    private static void promise12Drawn() {
        HotLoops x = fork();
        x.draw(1, 1, 33);
        x.draw(1, 0, 7);
        for (int what = 0; what < 3; what++) {
            Check.is("drawn(0, " + what + ") before its minute", x.drawn(0, what), HotLoops.NONE);
        }
        x.run(1);
        Check.is("drawn(0, 0) in its minute", x.drawn(0, 0), HotLoops.NONE);
        Check.is("drawn(1, 0)", x.drawn(1, 0), 2000);
        x.run(1);
        // 23 of 2000 stood behind 7 of 5996; 3 come from the heater.
        Check.is("drawn(0, 0)", x.drawn(0, 0), (23 * 2000 + 7 * 5996 + 3 * 6000) / 33);
        Check.is("drawn(0, 1)", x.drawn(0, 1), 2000);
        Check.is("drawn(0, 2)", x.drawn(0, 2), 6000);
        x.run(100);
        Check.is("drawn(0, 2) later", x.drawn(0, 2), 6000);
        x.draw(1, 102, 5);
    }

    private static void promise13Heat() {
        HotLoops x = fork();
        Check.is("HELD at first", x.heat(0), 60 * 2000);
        x.set(1, 3000);
        Check.is("HELD in new air", x.heat(0), 60 * 3000);
        x.set(1, 2000);
        x.draw(1, 0, 15);
        x.loop(2, 4);
        Check.is("GIVEN at first", x.heat(1), 0);
        x.run(1);
        // Pipe 0: 10 of 6000; pipe 1: 5 of 6000, pipe 2: 4 of 6000; each cools by 4.
        Check.is("GIVEN", x.heat(1), 19 * 6000);
        Check.is("OUT", x.heat(2), 19 * 2000);
        Check.is("LOST", x.heat(3), 19 * 4);
        Check.is("HELD", x.heat(0), 60 * 2000 + 19 * 4000 - 19 * 4);
    }
}
