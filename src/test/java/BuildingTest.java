/** Promises 1 to 5: what a new object is, and how pipes, taps, warmths and loops are told. */
public final class BuildingTest {
    public static void main(String[] args) {
        promise1NewObject();
        promise1ObjectsAreApart();
        promise2Pipes();
        promise3Taps();
        promise4Warmths();
        promise4AirFillsPipes();
        promise4CoolingIsRoundedToZero();
        promise5Loops();
        promise5LoopsGoByNumbers();
        Check.end();
    }

    private static void promise1NewObject() {
        HotLoops x = new HotLoops();
        for (int what = 0; what < 4; what++) {
            Check.is("heat(" + what + ")", x.heat(what), 0);
        }
        Check.is("dead(0, 0)", x.dead(0, 0), HotLoops.NONE);
        Check.is("shock(7000, 10, 1, 6000, 0)", x.shock(7000, 10, 1, 6000, 0), HotLoops.NONE);
        Check.is("set(0, 6000)", x.set(0, 6000), 6000);
        Check.is("set(1, 2000)", x.set(1, 2000), 2000);
        Check.is("pipe(NONE, 5, 5)", x.pipe(HotLoops.NONE, 5, 5), 0);
        Check.is("tap(0)", x.tap(0), true);
        Check.is("draw(0, 0, 1)", x.draw(0, 0, 1), 0);
        Check.is("run(1)", x.run(1), 1);
    }

    private static void promise1ObjectsAreApart() {
        HotLoops x = new HotLoops();
        HotLoops y = new HotLoops();
        x.pipe(HotLoops.NONE, 10, 1000);
        x.loop(0, 5);
        x.set(0, 9000);
        x.run(3);
        Check.is("pipe of the other", y.pipe(HotLoops.NONE, 10, 1000), 0);
        Check.is("loop of the other", y.loop(0, 5), 0);
        Check.is("set of the other", y.set(0, 9000), 6000);
        Check.is("run of the other", y.run(1), 1);
    }

    private static void promise2Pipes() {
        HotLoops x = new HotLoops();
        Check.is("pipe(NONE, 1, 1)", x.pipe(HotLoops.NONE, 1, 1), 0);
        Check.is("pipe(0, 1000, 1000)", x.pipe(0, 1000, 1000), 1);
        Check.is("pipe(NONE, 7, 7)", x.pipe(HotLoops.NONE, 7, 7), 2);
        Check.same("row 0", Check.row(x, 0), "1@2000");
        Check.same("row 1", Check.row(x, 1), "1000@2000");
        for (int number = 3; number < 10; number++) {
            Check.is("pipe " + number, x.pipe(number - 1, 10, 10), number);
        }
        Check.is("up to the heater from 9", x.warm(9, 6000), 77);
        Check.is("up to the heater from 1", x.warm(1, 6000), 1001);
    }

    private static void promise3Taps() {
        HotLoops x = new HotLoops();
        x.pipe(HotLoops.NONE, 5, 5);
        x.pipe(0, 5, 5);
        Check.is("tap(1)", x.tap(1), true);
        Check.is("tap(1) again", x.tap(1), false);
        Check.is("tap(1) a third time", x.tap(1), false);
        x.run(1);
        Check.is("tap(0) behind a minute", x.tap(0), true);
        Check.is("draw(0, 1, 5)", x.draw(0, 1, 5), 0);
    }

    private static void promise4Warmths() {
        HotLoops x = new HotLoops();
        Check.is("set(0, 0)", x.set(0, 0), 6000);
        Check.is("set(0, 10000)", x.set(0, 10000), 0);
        Check.is("set(0, 5)", x.set(0, 5), 10000);
        Check.is("set(1, 10000)", x.set(1, 10000), 2000);
        Check.is("set(1, 0)", x.set(1, 0), 10000);
        Check.is("set(1, 7)", x.set(1, 7), 0);
        Check.is("set(0, 6)", x.set(0, 6), 5);
        Check.is("set(1, 8)", x.set(1, 8), 7);
    }

    private static void promise4AirFillsPipes() {
        HotLoops x = new HotLoops();
        x.pipe(HotLoops.NONE, 10, 1000);
        x.set(0, 9000);
        Check.same("row 0 at first", Check.row(x, 0), "10@2000");
        x.set(1, 3000);
        x.pipe(0, 20, 10);
        Check.same("row 0 in new air", Check.row(x, 0), "10@3000");
        Check.same("row 1 in new air", Check.row(x, 1), "20@3000");
        x.run(1);
        x.set(1, 1000);
        Check.same("row 0 behind a minute", Check.row(x, 0), "10@3000");
        x.run(1);
        Check.same("row 0 cools by 2", Check.row(x, 0), "10@2998");
        Check.same("row 1 cools by 200", Check.row(x, 1), "20@2800");
        Check.is("LOST", x.heat(3), 10 * 2 + 20 * 200);
        Check.is("HELD", x.heat(0), 10 * 2998 + 20 * 2800);
    }

    private static void promise4CoolingIsRoundedToZero() {
        HotLoops x = new HotLoops();
        x.set(1, 1995);
        x.pipe(HotLoops.NONE, 3, 10);
        x.run(1);
        x.set(1, 2004);
        x.run(1);
        Check.same("9 colder than the air", Check.row(x, 0), "3@1995");
        x.set(1, 2014);
        x.run(1);
        Check.same("19 colder than the air", Check.row(x, 0), "3@1996");
        Check.is("LOST below 0", x.heat(3), -3);
        x.set(1, 1987);
        x.run(1);
        Check.same("9 warmer than the air", Check.row(x, 0), "3@1996");
        x.set(1, 1986);
        x.run(1);
        Check.same("10 warmer than the air", Check.row(x, 0), "3@1995");
        Check.is("LOST in all", x.heat(3), 0);
    }

    private static void promise5Loops() {
        HotLoops x = new HotLoops();
        x.pipe(HotLoops.NONE, 10, 1000);
        Check.is("loop(0, 500)", x.loop(0, 500), 0);
        Check.is("loop(0, 4)", x.loop(0, 4), 500);
        x.run(2);
        Check.same("row of a loop of 4", Check.row(x, 0), "4@5996 4@5993 2@2000");
        Check.is("GIVEN", x.heat(1), 8 * 6000);
        Check.is("OUT", x.heat(2), 8 * 2000);
        Check.is("loop(0, 0)", x.loop(0, 0), 4);
        x.run(1);
        Check.is("loop(0, 1)", x.loop(0, 1), 0);
        Check.is("GIVEN without a loop", x.heat(1), 8 * 6000);
        Check.is("told(0, 2) without a loop", x.told(0, 2), 1);
    }

    private static void promise5LoopsGoByNumbers() {
        HotLoops x = new HotLoops();
        x.pipe(HotLoops.NONE, 10, 1000);
        x.pipe(0, 10, 1000);
        x.pipe(0, 10, 1000);
        x.loop(2, 10);
        x.loop(1, 10);
        x.run(1);
        // The first one pushes the cold water of pipe 0 on, the second one hot water.
        Check.same("row 0", Check.row(x, 0), "10@5996");
        Check.same("row 1", Check.row(x, 1), "10@2000");
        Check.same("row 2", Check.row(x, 2), "10@5996");
    }
}
