/** Promise 14: a shock is tried, and nothing is changed by it. */
public final class ShockTest {
    private static final int MAX = Integer.MAX_VALUE;

    public static void main(String[] args) {
        comesWhenThePipesAreFilled();
        oneDrawIsEnough();
        tapsGoByNumbers();
        drawsAreLeftOutAndLoopsAreNot();
        coolsBetweenTheMinutes();
        Check.end();
    }

    private static HotLoops fork() {
        HotLoops x = new HotLoops();
        x.pipe(HotLoops.NONE, 10, 1000);
        x.pipe(0, 10, 1000);
        x.pipe(0, 10, 1000);
        x.tap(1);
        x.tap(2);
        return x;
    }

    private static void comesWhenThePipesAreFilled() {
        HotLoops x = fork();
        Check.is("one minute, k = 0", x.shock(7000, 10, 1, 2001, 0), 1);
        Check.is("one minute, k = 1", x.shock(7000, 10, 1, 2001, 1), 2);
        Check.is("one minute, k = 2", x.shock(7000, 10, 1, 2001, 2), HotLoops.NONE);
        Check.is("k = MAX", x.shock(7000, 10, 1, 2001, MAX), HotLoops.NONE);
        Check.is("as warm as wanted", x.shock(7000, 10, 1, 2000, 0), HotLoops.NONE);
        Check.is("two minutes", x.shock(7000, 10, 2, 6990, 0), 1);
        Check.is("two minutes, the other", x.shock(7000, 10, 2, 6990, 1), HotLoops.NONE);
        Check.is("three minutes", x.shock(7000, 10, 3, 6990, 0), HotLoops.NONE);
        Check.is("heat below what is wanted", x.shock(6000, 100, 30, 6001, 1), 2);
        Check.is("bounds", x.shock(0, 1, 1, 0, 0), HotLoops.NONE);
        Check.is("upper bounds", x.shock(10000, 100, 30, 10000, 0), 1);
    }

    private static void oneDrawIsEnough() {
        HotLoops x = fork();
        x.set(1, 9000);
        // The first minute's draws are warm, all later ones are not.
        Check.is("warm at first alone", x.shock(0, 10, 30, 9000, 0), HotLoops.NONE);
        Check.is("part of a draw is cold", x.shock(0, 30, 1, 9000, 0), 1);
    }

    private static void tapsGoByNumbers() {
        HotLoops x = fork();
        // The first tap fills pipe 0, so that the second one's pipe gets hot water a minute earlier.
        Check.is("pipe 1 is later", x.shock(7000, 10, 2, 6000, 0), 1);
        Check.is("pipe 2 is not", x.shock(7000, 10, 2, 6000, 1), HotLoops.NONE);
        x.tap(0);
        Check.is("pipe 0 alone has hot water", x.shock(7000, 5, 2, 6000, 0), 1);
        Check.is("without pipe 0's tap none had", x.shock(7000, 5, 2, 6000, 1), 2);
    }

    private static void drawsAreLeftOutAndLoopsAreNot() {
        HotLoops x = fork();
        x.draw(1, 0, 1000);
        x.draw(2, 0, 1000);
        Check.is("a draw does not help", x.shock(7000, 1, 2, 6000, 0), 1);
        Check.is("nor does another", x.shock(7000, 1, 2, 6000, 1), 2);
        x.loop(2, 20);
        Check.is("a loop helps pipe 2 alone", x.shock(7000, 1, 2, 6000, 0), 1);
        Check.is("from the second minute on", x.shock(7000, 1, 2, 6000, 1), HotLoops.NONE);
    }

    private static void coolsBetweenTheMinutes() {
        HotLoops x = new HotLoops();
        x.pipe(HotLoops.NONE, 10, 10);
        x.tap(0);
        x.set(1, 1000);
        // 7000 cools by 600 in the minute between.
        Check.is("wanted 6400", x.shock(7000, 10, 2, 6400, 0), HotLoops.NONE);
        Check.is("wanted 6401", x.shock(7000, 10, 2, 6401, 0), 0);
        x.run(1);
        x.set(1, 7000);
        Check.is("in new air it does not cool", x.shock(7000, 10, 2, 7000, 0), HotLoops.NONE);
    }
}
