/** Each sentence on taking, on a minute and on heat that names a boundary; promises 6 and 7. */
public final class MinuteEdgesTest {
    // At LEADS 1000 what is less than 1000 warmer than the AIR keeps its warmth.
    private static final String[] ELEVEN = {"2080", "2160", "2240", "2320", "2400", "2480", "2560",
        "2640", "2720", "2800", "2880"};
    private static final String NINE_BEHIND = "1@2720 1@2640 1@2560 1@2480 1@2400 1@2320 1@2240 1@2160 1@2080";

    public static void main(String[] args) {
        taking();
        takingThroughPipes();
        moreThanTwelve();
        moreThanTwelveFromThePipeBefore();
        moreThanTwelveInEachTake();
        asManyPlugsAsCanBe();
        orderInAMinute();
        cooling();
        heatOfMinutesThatAreOver();
        promise6();
        promise6Refused();
        promise7();
        Check.end();
    }

    /** A minute for each warmth of HEAT. */
    private static String[] minutesOf(String... warmths) {
        String[] rows = new String[2 * warmths.length];
        for (int i = 0; i < warmths.length; i++) {
            rows[2 * i] = "set(0, " + warmths[i] + ")";
            rows[2 * i + 1] = "run(1)";
        }
        return rows;
    }

    private static void taking() {
        Runs.holds("TO TAKE less than the pipe holds",
                "pipe(NONE, 10, 1000)", "tap(0)", "draw(0, 0, 9)", "run(1)",
                "row(0) -> 9@5996 1@2000", "drawn(0, 0) -> 2000", "drawn(0, 2) -> 2000");
        Runs.holds("TO TAKE as much as the pipe holds",
                "pipe(NONE, 10, 1000)", "tap(0)", "draw(0, 0, 10)", "run(1)", "row(0) -> 10@5996",
                "drawn(0, 0) -> 2000", "drawn(0, 2) -> 2000", "heat(2) -> 20000");
        Runs.holds("TO TAKE more than the pipe holds: the heater's plug comes too",
                "pipe(NONE, 10, 1000)", "tap(0)", "draw(0, 0, 11)", "run(1)", "row(0) -> 10@5996",
                "drawn(0, 0) -> 2363", "drawn(0, 1) -> 2000", "drawn(0, 2) -> 6000",
                "heat(1) -> 66000", "heat(2) -> 26000");
        Runs.holds("TO TAKE the most from the smallest pipe",
                "pipe(NONE, 1, 1000)", "tap(0)", "draw(0, 0, 1000)", "run(1)", "row(0) -> 1@5996",
                "drawn(0, 0) -> 5996", "heat(2) -> 5996000");
        Runs.holds("TO TAKE the least from the largest pipe",
                "pipe(NONE, 1000, 1000)", "tap(0)", "draw(0, 0, 1)", "run(1)",
                "row(0) -> 1@5996 999@2000", "drawn(0, 0) -> 2000");
    }

    private static void takingThroughPipes() {
        String[] two = {"pipe(NONE, 10, 1000)", "pipe(0, 20, 1000)", "pipe(0, 20, 1000)", "tap(1)"};
        Runs.holds("v is taken from the end of what it comes from: all cold as yet",
                Runs.rows(two, Runs.some("draw(1, 0, 30)", "run(1)", "row(0) -> 10@5996", "row(1) -> 20@5996",
                "row(2) -> 20@2000", "drawn(0, 0) -> 2000", "drawn(0, 2) -> 2000")));
        Runs.holds("v is taken from the end of what it comes from: one more is hot",
                Runs.rows(two, Runs.some("draw(1, 0, 31)", "run(1)", "drawn(0, 1) -> 2000",
                "drawn(0, 2) -> 6000", "drawn(0, 0) -> 2129")));
        Runs.holds("v is put before the pipe's row as it is",
                Runs.rows(two, Runs.some("draw(1, 0, 13)", "run(1)", "row(0) -> 10@5996",
                "row(1) -> 3@5996 17@2000")));
        Runs.holds("something FLOWS through each pipe on the way, and through no other",
                Runs.rows(two, Runs.some("pipe(1, 5, 5)", "draw(1, 0, 1)", "run(1)", "told(0, 2) -> 0",
                "told(1, 2) -> 0", "told(2, 2) -> 1", "told(3, 2) -> 1")));
        Runs.holds("the way goes through all 10 pipes",
                "pipe(NONE, 1, 1000)", "pipe(0, 1, 1000)", "pipe(1, 1, 1000)", "pipe(2, 1, 1000)",
                "pipe(3, 1, 1000)", "pipe(4, 1, 1000)", "pipe(5, 1, 1000)", "pipe(6, 1, 1000)",
                "pipe(7, 1, 1000)", "pipe(8, 1, 1000)", "tap(9)", "draw(9, 0, 10)", "draw(9, 0, 1)",
                "run(1)", "drawn(0, 2) -> 2000", "drawn(1, 1) -> 6000", "row(9) -> 1@5996",
                "dead(1, 0) -> NONE");
    }

    private static void moreThanTwelve() {
        String[] eleven = Runs.rows(Runs.some("pipe(NONE, 13, 1000)", "loop(0, 1)"), minutesOf(ELEVEN));
        Runs.holds("a row of 12 plugs is left as it is",
                Runs.rows(eleven, Runs.some("row(0) -> 1@2880 1@2800 " + NINE_BEHIND + " 2@2000",
                "plug(0, 11, 0) -> 2", "plug(0, 12, 0) -> NONE", "heat(3) -> 0")));
        Runs.holds("more than 12: the neighbours that differ least stand at the beginning",
                Runs.rows(eleven, minutesOf("2881"),
                Runs.some("row(0) -> 2@2880 1@2800 " + NINE_BEHIND + " 1@2000", "heat(3) -> 1")));
        Runs.holds("more than 12: the first of the two may be the colder one",
                Runs.rows(eleven, minutesOf("2879"),
                Runs.some("row(0) -> 2@2879 1@2800 " + NINE_BEHIND + " 1@2000", "heat(3) -> 1")));
        Runs.holds("more than 12: the neighbours that differ least stand at the end",
                Runs.rows(Runs.some("pipe(NONE, 13, 1000)", "loop(0, 1)"), minutesOf("2001"),
                minutesOf(ELEVEN), Runs.some("row(0) -> 1@2880 1@2800 " + NINE_BEHIND + " 2@2000",
                "heat(3) -> 1")));
        Runs.holds("of several those nearest the beginning, and nothing is rounded away",
                Runs.rows(eleven, minutesOf("2960"),
                Runs.some("row(0) -> 2@2920 1@2800 " + NINE_BEHIND + " 1@2000", "heat(3) -> 0")));
        Runs.holds("volume times warmth of both, by that volume, rounded down; the rest is LOST",
                Runs.rows(Runs.some("pipe(NONE, 15, 1000)", "loop(0, 1)"), minutesOf(ELEVEN),
                Runs.some("loop(0, 2)"), minutesOf("2890"),
                Runs.some("row(0) -> 3@2886 1@2800 " + NINE_BEHIND + " 2@2000", "heat(3) -> 2")));
    }

    private static void moreThanTwelveFromThePipeBefore() {
        String[] pipes = {"pipe(NONE, 12, 1000)", "pipe(0, 14, 1000)", "tap(1)", "loop(0, 1)"};
        String[] last = {"loop(0, 0)", "set(0, 2990)", "draw(1, 12, 13)", "run(1)"};
        Runs.holds("and so on until there are 12",
                Runs.rows(pipes, minutesOf(ELEVEN), minutesOf("2960"), last,
                Runs.some("row(0) -> 12@2990", "row(1) -> 2@2975 2@2840 " + NINE_BEHIND + " 1@2000",
                "drawn(0, 2) -> 2000", "heat(3) -> 0")));
        Runs.holds("and so on: a joined plug may be joined again",
                Runs.rows(pipes, minutesOf("2080", "2160", "2240", "2320", "2400", "2480", "2560", "2640",
                "2720", "2800", "2987", "2989"), last,
                Runs.some("row(1) -> 3@2988 1@2800 " + NINE_BEHIND + " 1@2000", "heat(3) -> 2")));
        Runs.holds("(What is taken is not changed so.)",
                Runs.rows(Runs.some("pipe(NONE, 12, 1000)", "pipe(0, 1, 1000)", "tap(1)", "loop(0, 1)"),
                minutesOf(ELEVEN), minutesOf("2960"),
                Runs.some("loop(0, 0)", "set(0, 2990)", "draw(1, 12, 14)", "run(1)", "row(1) -> 1@2990",
                "drawn(0, 0) -> 2516", "drawn(0, 1) -> 2000", "drawn(0, 2) -> 2990",
                "heat(2) -> 59230", "heat(3) -> 0")));
    }

    private static void moreThanTwelveInEachTake() {
        String[] twelve = Runs.rows(Runs.some("pipe(NONE, 13, 1000)", "tap(0)", "loop(0, 1)"),
                minutesOf("2001", "2080", "2160", "2240", "2320", "2400", "2480", "2560", "2640", "2720", "2800"),
                Runs.some("row(0) -> 1@2800 " + NINE_BEHIND + " 1@2001 2@2000", "set(0, 2990)"));
        // The draw makes 13 plugs, of which 2001 and the last 2000 become one; of it the loop takes half.
        Runs.holds("more than 12 then: in each TAKE, not at the minute's end",
                Runs.rows(twelve, Runs.some("draw(0, 11, 1)", "run(1)",
                "row(0) -> 2@2990 1@2800 " + NINE_BEHIND + " 1@2000", "heat(3) -> 1")));
        Runs.holds("one TAKE of as much has only 12 then, and nothing is joined",
                Runs.rows(twelve, Runs.some("loop(0, 2)", "run(1)",
                "row(0) -> 2@2990 1@2800 " + NINE_BEHIND + " 1@2001", "heat(3) -> 0")));
    }

    private static void asManyPlugsAsCanBe() {
        String[] rows = {"pipe(NONE, 12, 1000)", "pipe(0, 12, 1000)", "pipe(1, 12, 1000)",
            "pipe(2, 12, 1000)", "pipe(3, 12, 1000)", "pipe(4, 12, 1000)", "pipe(5, 12, 1000)",
            "pipe(6, 12, 1000)", "pipe(7, 12, 1000)", "pipe(8, 12, 1000)", "tap(9)", "loop(9, 1)"};
        for (int i = 0; i < 60; i++) {
            rows = Runs.rows(rows, minutesOf("2100", "2200"));
        }
        Runs.holds("what is taken may be 12 plugs of each of 10 pipes and one of the heater",
                Runs.rows(rows, Runs.some("plug(0, 11, 0) -> 1", "plug(9, 11, 0) -> 1", "loop(9, 0)",
                "set(0, 2990)", "draw(9, 120, 121)", "run(1)", "row(0) -> 12@2990",
                "row(9) -> 12@2990", "drawn(0, 0) -> 2156", "drawn(0, 1) -> 2100",
                "drawn(0, 2) -> 2990", "heat(2) -> 500990", "heat(3) -> 0")));
    }

    private static void orderInAMinute() {
        String[] fork = {"pipe(NONE, 10, 1000)", "pipe(0, 10, 1000)", "pipe(0, 10, 1000)", "tap(1)",
            "tap(2)"};
        Runs.holds("its draws, in the order in which they were told, by no pipe's number",
                Runs.rows(fork, Runs.some("draw(2, 0, 10)", "draw(1, 0, 10)", "run(1)", "row(2) -> 10@2000",
                "row(1) -> 10@5996")));
        Runs.holds("its draws: a later minute's that was told first waits",
                Runs.rows(fork, Runs.some("draw(1, 1, 10)", "draw(2, 0, 10)", "run(1)", "row(2) -> 10@2000",
                "row(1) -> 10@2000", "run(1)", "row(1) -> 10@5993")));
        Runs.holds("then the loops, behind all draws",
                Runs.rows(fork, Runs.some("loop(0, 10)", "draw(2, 0, 10)", "run(1)", "row(2) -> 10@2000",
                "row(0) -> 10@5996", "heat(2) -> 80000")));
        Runs.holds("then the loops, by pipes' numbers",
                Runs.rows(fork, Runs.some("loop(2, 10)", "loop(1, 10)", "run(1)", "row(1) -> 10@2000",
                "row(2) -> 10@5996")));
    }

    private static void cooling() {
        String[] pipe = {"pipe(NONE, 3, 10)", "run(1)"};
        Runs.holds("less by (its warmth - AIR) / LEADS, rounded to 0: warmer by less than LEADS",
                Runs.rows(pipe, Runs.some("set(1, 1991)", "run(1)", "row(0) -> 3@2000", "heat(3) -> 0")));
        Runs.holds("less by (its warmth - AIR) / LEADS: warmer by LEADS",
                Runs.rows(pipe, Runs.some("set(1, 1990)", "run(1)", "row(0) -> 3@1999", "heat(3) -> 3")));
        Runs.holds("less by (its warmth - AIR) / LEADS, rounded to 0: warmer by less than twice LEADS",
                Runs.rows(pipe, Runs.some("set(1, 1981)", "run(1)", "row(0) -> 3@1999", "heat(3) -> 3")));
        Runs.holds("rounded to 0, not down: colder by less than LEADS",
                Runs.rows(pipe, Runs.some("set(1, 2009)", "run(1)", "row(0) -> 3@2000", "heat(3) -> 0")));
        Runs.holds("LOST is below 0 when it gets warmer: colder by LEADS",
                Runs.rows(pipe, Runs.some("set(1, 2010)", "run(1)", "row(0) -> 3@2001", "heat(3) -> -3")));
        Runs.holds("rounded to 0, not down: colder by less than twice LEADS",
                Runs.rows(pipe, Runs.some("set(1, 2019)", "run(1)", "row(0) -> 3@2001", "heat(3) -> -3")));
        Runs.holds("from the least warmth to the greatest in a minute",
                "set(1, 0)", "pipe(NONE, 1000, 1)", "run(1)", "set(1, 10000)", "run(1)",
                "row(0) -> 1000@10000", "heat(3) -> -10000000", "set(1, 0)", "run(1)",
                "row(0) -> 1000@0", "heat(3) -> 0");
        Runs.holds("neighbours of the same warmth become one",
                "pipe(NONE, 10, 3)", "loop(0, 2)", "set(0, 2003)", "run(1)",
                "row(0) -> 2@2002 8@2000", "run(1)", "row(0) -> 4@2002 6@2000", "heat(3) -> 4");
        Runs.holds("each plug cools by the LEADS of its own pipe",
                "pipe(NONE, 5, 1)", "pipe(0, 5, 2)", "pipe(1, 5, 4)", "loop(2, 15)", "run(1)",
                "row(0) -> 5@2000", "row(1) -> 5@4000", "row(2) -> 5@5000");
    }

    private static void heatOfMinutesThatAreOver() {
        String[] told = {"pipe(NONE, 10, 1000)", "tap(0)", "loop(0, 2)", "draw(0, 1, 3)"};
        Runs.holds("GIVEN, OUT and LOST of all minutes that are over: none is",
                Runs.rows(told, Runs.some("heat(0) -> 20000", "heat(1) -> 0", "heat(2) -> 0", "heat(3) -> 0")));
        Runs.holds("GIVEN, OUT and LOST of all minutes that are over: one is",
                Runs.rows(told, Runs.some("run(1)", "heat(0) -> 27992", "heat(1) -> 12000", "heat(2) -> 4000",
                "heat(3) -> 8")));
        // 5 of 6000 come in and become 5996; 2 of 5996 become 5993: 20 + 6 are lost more.
        Runs.holds("GIVEN, OUT and LOST of all minutes that are over: two are",
                Runs.rows(told, Runs.some("run(2)", "heat(0) -> 47966", "heat(1) -> 42000", "heat(2) -> 14000",
                "heat(3) -> 34")));
    }

    private static void promise6() {
        String[] tap = {"pipe(NONE, 10, 1000)", "pipe(0, 10, 1000)", "tap(0)"};
        Runs.holds("a DRAW in a minute up to 2999",
                Runs.rows(tap, Runs.some("draw(0, MAX, 5) -> argument", "draw(0, 3000, 5) -> argument",
                "draw(0, 2999, 5) -> 0", "run(100) x 29", "run(99) -> 2999", "drawn(0, 0) -> NONE",
                "run(1) -> 3000", "drawn(0, 0) -> 2000")));
        Runs.holds("a DRAW in a minute from 0 on",
                Runs.rows(tap, Runs.some("draw(0, MIN, 5) -> argument", "draw(0, -1, 5) -> argument",
                "draw(0, 0, 5) -> 0")));
        Runs.holds("a DRAW takes 1 or more",
                Runs.rows(tap, Runs.some("draw(0, 0, MIN) -> argument", "draw(0, 0, -1) -> argument",
                "draw(0, 0, 0) -> argument", "draw(0, 0, 1) -> 0", "run(1)", "heat(1) -> 6000")));
        Runs.holds("a DRAW takes up to 1000",
                Runs.rows(tap, Runs.some("draw(0, 0, MAX) -> argument", "draw(0, 0, 1001) -> argument",
                "draw(0, 0, 1000) -> 0", "run(1)", "heat(1) -> 6000000")));
        Runs.holds("a DRAW: there is no such pipe",
                Runs.rows(tap, Runs.some("draw(MIN, 0, 5) -> argument", "draw(NONE, 0, 5) -> argument",
                "draw(2, 0, 5) -> argument", "draw(10, 0, 5) -> argument",
                "draw(MAX, 0, 5) -> argument")));
        Runs.holds("a DRAW: its number, from 0 on, and a refused one has none",
                Runs.rows(tap, Runs.some("draw(0, 5, 5) -> 0", "draw(0, 0, 0) -> argument", "draw(0, 2, 5) -> 1",
                "draw(1, 0, 5) -> state", "draw(0, 2, 5) -> 2", "run(3)", "draw(0, 2, 5) -> state",
                "draw(0, 3, 5) -> 3")));
        Runs.holds("illegal state: the pipe has no tap",
                Runs.rows(tap, Runs.some("draw(1, 0, 5) -> state", "tap(1)", "draw(1, 0, 5) -> 0")));
        Runs.holds("illegal state: the minute is over",
                Runs.rows(tap, Runs.some("run(2)", "draw(0, 0, 5) -> state", "draw(0, 1, 5) -> state",
                "draw(0, 2, 5) -> 0", "run(1)", "draw(0, 2, 5) -> state")));
        Runs.holds("illegal state: the minute is over, the last one too",
                Runs.rows(tap, Runs.some("run(100) x 30", "draw(0, 2999, 5) -> state",
                "draw(0, 3000, 5) -> argument")));
        Runs.holds("illegal state: or there are 60",
                Runs.rows(tap, Runs.some("draw(0, 0, 1) x 30", "draw(0, 1, 1) x 29", "draw(0, 1, 1) -> 59",
                "draw(0, 1, 1) -> state", "draw(0, 2999, 1) -> state", "drawn(59, 0) -> NONE",
                "drawn(60, 0) -> argument", "run(2)", "heat(1) -> 360000")));
        Runs.holds("there are 60, also when their minutes are over",
                Runs.rows(tap, Runs.some("draw(0, 0, 1) x 60", "run(1)", "draw(0, 1, 1) -> state",
                "run(1)", "heat(1) -> 360000")));
    }

    private static void promise6Refused() {
        String[] tap = {"pipe(NONE, 10, 1000)", "pipe(0, 10, 1000)", "tap(0)"};
        Runs.holds("no tap: the illegal argument is named first",
                Runs.rows(tap, Runs.some("draw(1, -1, 5) -> argument", "draw(1, 3000, 5) -> argument",
                "draw(1, 0, 0) -> argument", "draw(1, 0, 1001) -> argument")));
        Runs.holds("the minute is over: the illegal argument is named first",
                Runs.rows(tap, Runs.some("run(5)", "draw(2, 0, 5) -> argument", "draw(0, 0, 0) -> argument",
                "draw(0, 0, 1001) -> argument", "draw(0, -1, 5) -> argument")));
        Runs.holds("there are 60: the illegal argument is named first",
                Runs.rows(tap, Runs.some("draw(0, 0, 1) x 60", "draw(2, 0, 1) -> argument",
                "draw(0, 3000, 1) -> argument", "draw(0, 0, 0) -> argument",
                "draw(0, 0, 1001) -> argument")));
    }

    private static void promise7() {
        String[] house = {"pipe(NONE, 10, 1000)", "tap(0)", "loop(0, 1)", "draw(0, 0, 3)",
            "draw(0, 2999, 4)"};
        Runs.holds("n minutes, 1 or more",
                Runs.rows(house, Runs.some("run(MIN) -> argument", "run(-1) -> argument", "run(0) -> argument",
                "run(1) -> 1", "heat(1) -> 24000")));
        Runs.holds("n minutes, up to 100",
                Runs.rows(house, Runs.some("run(MAX) -> argument", "run(101) -> argument", "run(100) -> 100",
                "heat(1) -> 618000", "run(100) -> 200")));
        Runs.holds("illegal state: there would be more than 3000",
                Runs.rows(house, Runs.some("run(100) x 29", "run(1) -> 2901", "run(100) -> state",
                "drawn(1, 0) -> NONE", "run(98) -> 2999", "run(2) -> state", "run(100) -> state",
                "drawn(1, 0) -> NONE", "run(1) -> 3000", "run(1) -> state", "run(100) -> state")));
        Runs.holds("3000 minutes may come at once to the last one",
                Runs.rows(house, Runs.some("run(100) x 29", "run(100) -> 3000", "heat(1) -> 18042000")));
        Runs.holds("3000 are over: the illegal argument is named first",
                Runs.rows(house, Runs.some("run(100) x 30", "run(0) -> argument", "run(101) -> argument",
                "run(MAX) -> argument", "run(MIN) -> argument")));
    }
}
