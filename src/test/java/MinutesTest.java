/** Promises 6 and 7, and what the Terms say of a minute: draws, taking, loops, cooling. */
public final class MinutesTest {
    public static void main(String[] args) {
        promise6Draws();
        promise6SixtyDraws();
        promise7Runs();
        promise7ThreeThousandMinutes();
        takingThroughTwoPipes();
        takingMoreThanThereIs();
        drawsComeInTheirOrderAndBeforeLoops();
        likestNeighboursBecomeOne();
        joinedPlugsMayMeetTheirLike();
        neighboursBecomeOneAsTheyCool();
        whatIsTakenIsNotJoined();
        Check.end();
    }

    private static HotLoops onePipe(int volume, int leads) {
        HotLoops x = new HotLoops();
        x.pipe(HotLoops.NONE, volume, leads);
        x.tap(0);
        return x;
    }

    private static void promise6Draws() {
        HotLoops x = onePipe(100, 1000);
        Check.is("draw(0, 1, 20)", x.draw(0, 1, 20), 0);
        Check.is("draw(0, 0, 30)", x.draw(0, 0, 30), 1);
        Check.is("draw(0, 2999, 1)", x.draw(0, 2999, 1), 2);
        x.run(1);
        Check.same("row behind minute 0", Check.row(x, 0), "30@5996 70@2000");
        Check.is("draw in the minute that comes", x.draw(0, 1, 1000), 3);
        x.run(1);
        Check.same("row behind minute 1", Check.row(x, 0), "100@5996");
        Check.is("GIVEN", x.heat(1), 1050 * 6000);
        Check.is("OUT", x.heat(2), 100 * 2000 + 30 * 5996 + 920 * 6000);
    }

    private static void promise6SixtyDraws() {
        HotLoops x = onePipe(100, 1000);
        for (int i = 0; i < 60; i++) {
            Check.is("draw " + i, x.draw(0, i % 2, 1), i);
        }
        x.run(2);
        Check.is("GIVEN", x.heat(1), 60 * 6000);
    }

    private static void promise7Runs() {
        HotLoops x = onePipe(100, 1000);
        Check.is("run(1)", x.run(1), 1);
        Check.is("run(100)", x.run(100), 101);
        Check.is("run(2)", x.run(2), 103);
    }

    private static void promise7ThreeThousandMinutes() {
        HotLoops x = onePipe(500, 1000);
        x.draw(0, 2999, 1);
        x.loop(0, 500);
        x.set(0, 10000);
        for (int i = 1; i < 30; i++) {
            Check.is("run(100)", x.run(100), 100 * i);
        }
        Check.is("run(99)", x.run(99), 2999);
        Check.is("drawn before the last minute", x.drawn(0, 0), HotLoops.NONE);
        Check.is("run(1)", x.run(1), 3000);
        Check.is("drawn behind the last minute", x.drawn(0, 0), 9992);
        // More than an int holds.
        Check.is("GIVEN", x.heat(1), (3000L * 500 + 1) * 10000);
    }

    private static void takingThroughTwoPipes() {
        HotLoops x = onePipe(10, 1000);
        x.pipe(0, 20, 1000);
        x.pipe(0, 30, 1000);
        x.tap(1);
        x.draw(1, 0, 15);
        x.run(1);
        Check.same("row 0", Check.row(x, 0), "10@5996");
        Check.same("row 1", Check.row(x, 1), "5@5996 15@2000");
        Check.same("row 2", Check.row(x, 2), "30@2000");
        x.draw(1, 1, 18);
        x.run(1);
        Check.same("row 0 then", Check.row(x, 0), "10@5996");
        Check.same("row 1 then", Check.row(x, 1), "8@5996 12@5993");
        Check.is("the draw's least warm plug", x.drawn(1, 1), 2000);
        Check.is("the draw's warmest plug", x.drawn(1, 2), 5996);
        Check.is("the draw's warmth", x.drawn(1, 0), (15 * 2000 + 3 * 5996) / 18);
    }

    private static void takingMoreThanThereIs() {
        HotLoops x = onePipe(10, 1000);
        x.draw(0, 0, 25);
        x.run(1);
        Check.same("row", Check.row(x, 0), "10@5996");
        Check.is("OUT", x.heat(2), 10 * 2000 + 15 * 6000);
        Check.is("GIVEN", x.heat(1), 25 * 6000);
        Check.is("LOST", x.heat(3), 10 * 4);
    }

    private static void drawsComeInTheirOrderAndBeforeLoops() {
        HotLoops x = onePipe(10, 1000);
        x.pipe(0, 10, 1000);
        x.pipe(0, 10, 1000);
        x.tap(1);
        x.tap(2);
        x.loop(0, 10);
        x.draw(2, 0, 10);
        x.draw(1, 0, 20);
        x.run(1);
        Check.same("the first one pushes cold water on", Check.row(x, 2), "10@2000");
        Check.same("the second one hot water", Check.row(x, 1), "10@5996");
        Check.is("the first draw", x.drawn(0, 0), 2000);
        Check.is("the second draw", x.drawn(1, 0), 4000);
        Check.is("the loop took hot water", x.heat(2), 10 * 2000 + 10 * 2000 + 10 * 6000 + 10 * 6000);
    }

    /** Warmths less than 1000 from the air do not cool at 1000 leads, so rows can be set up. */
    private static void giveMinutes(HotLoops x, int... warmths) {
        for (int warmth : warmths) {
            x.set(0, warmth);
            x.run(1);
        }
    }

    private static void likestNeighboursBecomeOne() {
        HotLoops x = onePipe(13, 1000);
        x.loop(0, 1);
        giveMinutes(x, 2100, 2201, 2303, 2400, 2451, 2511, 2452, 2401, 2300, 2100, 2300);
        Check.same("12 plugs", Check.row(x, 0),
                "1@2300 1@2100 1@2300 1@2401 1@2452 1@2511 1@2451 1@2400 1@2303 1@2201 1@2100 2@2000");
        Check.is("LOST at 12", x.heat(3), 0);
        giveMinutes(x, 2100);
        // 2401 2452 and 2451 2400 differ by 51 alike: those nearest the beginning are joined.
        Check.same("a 13th plug", Check.row(x, 0),
                "1@2100 1@2300 1@2100 1@2300 2@2426 1@2511 1@2451 1@2400 1@2303 1@2201 1@2100 1@2000");
        Check.is("LOST at 13", x.heat(3), 1);
        Check.is("plug(0, 12, 0)", x.plug(0, 12, 0), HotLoops.NONE);
    }

    private static void joinedPlugsMayMeetTheirLike() {
        HotLoops x = onePipe(14, 1000);
        x.loop(0, 1);
        giveMinutes(x, 2100, 2200, 2300, 2400, 2500, 2600, 2700, 2650, 2655, 2653, 2900, 2800);
        // 2653 and 2655 become 2654: no third of that warmth, so 12 plugs stay.
        Check.same("joined", Check.row(x, 0),
                "1@2800 1@2900 2@2654 1@2650 1@2700 1@2600 1@2500 1@2400 1@2300 1@2200 1@2100 2@2000");
        giveMinutes(x, 2890);
        // 2654 (2) and 2650 differ least and become (2 * 2654 + 2650) / 3 = 2652, 2 rounded away.
        Check.same("joined again", Check.row(x, 0),
                "1@2890 1@2800 1@2900 3@2652 1@2700 1@2600 1@2500 1@2400 1@2300 1@2200 1@2100 1@2000");
        Check.is("LOST", x.heat(3), 2);
        HotLoops y = onePipe(14, 1000);
        y.loop(0, 1);
        giveMinutes(y, 2100, 2200, 2300, 2400, 2500, 2600, 2700, 2650, 2651, 2650, 2900, 2800);
        // 2650 and 2651 become 2650, as the next one is: three plugs are one.
        Check.same("three in one", Check.row(y, 0),
                "1@2800 1@2900 3@2650 1@2700 1@2600 1@2500 1@2400 1@2300 1@2200 1@2100 2@2000");
        Check.is("LOST of three in one", y.heat(3), 1);
    }

    private static void neighboursBecomeOneAsTheyCool() {
        HotLoops x = onePipe(10, 3);
        x.loop(0, 2);
        giveMinutes(x, 2005, 2003);
        // 2005 cools to 2004 and to 2003; 2003 cools to 2002: not alike yet.
        Check.same("apart", Check.row(x, 0), "2@2002 2@2003 6@2000");
        x.loop(0, 0);
        x.run(1);
        Check.same("alike", Check.row(x, 0), "4@2002 6@2000");
    }

    private static void whatIsTakenIsNotJoined() {
        HotLoops x = onePipe(12, 1000);
        x.pipe(0, 1, 1000);
        x.tap(1);
        x.loop(0, 1);
        giveMinutes(x, 2001, 2003, 2006, 2010, 2015, 2021, 2028, 2036, 2045, 2055, 2066, 2078);
        x.loop(0, 0);
        x.set(0, 2900);
        x.draw(1, 12, 14);
        x.run(1);
        int sum = 2000 + 2001 + 2003 + 2006 + 2010 + 2015 + 2021 + 2028 + 2036 + 2045 + 2055 + 2066 + 2078 + 2900;
        Check.is("warmth of 14 plugs", x.drawn(0, 0), sum / 14);
        Check.is("OUT", x.heat(2), 12 * 2000 + sum);
        Check.is("LOST", x.heat(3), 0);
        Check.same("row 0", Check.row(x, 0), "12@2900");
        Check.same("row 1", Check.row(x, 1), "1@2900");
    }
}
