/** Each sentence on a SHOCK that names a boundary: promise 14. */
public final class ShockEdgesTest {
    // Pipes 1 and 2 go on from the end of pipe 0 and have taps.
    private static final String[] HOUSE = {"pipe(NONE, 10, 1000)", "pipe(0, 10, 1000)",
        "pipe(0, 10, 1000)", "tap(1)", "tap(2)"};

    public static void main(String[] args) {
        bounds();
        whereItComes();
        whatIsTried();
        nothingIsChanged();
        Check.end();
    }

    private static void holds(String sentence, String... rows) {
        Runs.holds(sentence, Runs.rows(HOUSE, rows));
    }

    private static void bounds() {
        holds("a SHOCK with HEAT, 0 or more",
                "shock(MIN, 10, 1, 6000, 0) -> argument", "shock(-1, 10, 1, 6000, 0) -> argument",
                "shock(0, 10, 1, 6000, 0) -> 1");
        holds("a SHOCK with HEAT, up to 10000",
                "shock(MAX, 10, 1, 6000, 0) -> argument", "shock(10001, 10, 1, 6000, 0) -> argument",
                "shock(10000, 10, 1, 6000, 0) -> 1");
        holds("so much drawn, 1 or more",
                "shock(7000, MIN, 1, 6000, 0) -> argument", "shock(7000, -1, 1, 6000, 0) -> argument",
                "shock(7000, 0, 1, 6000, 0) -> argument", "shock(7000, 1, 1, 6000, 0) -> 1");
        holds("so much drawn, up to 100",
                "shock(7000, MAX, 1, 6000, 0) -> argument", "shock(7000, 101, 1, 6000, 0) -> argument",
                "shock(7000, 100, 1, 6000, 0) -> 1", "shock(7000, 100, 2, 6000, 0) -> NONE");
        holds("so many minutes, 1 or more",
                "shock(7000, 10, MIN, 6000, 0) -> argument", "shock(7000, 10, -1, 6000, 0) -> argument",
                "shock(7000, 10, 0, 6000, 0) -> argument", "shock(7000, 10, 1, 6000, 0) -> 1");
        holds("so many minutes, up to 30",
                "shock(7000, 10, MAX, 6000, 0) -> argument", "shock(7000, 10, 31, 6000, 0) -> argument",
                "shock(7000, 10, 30, 6000, 0) -> NONE");
        holds("a warmth is wanted, 0 or more",
                "shock(7000, 10, 1, MIN, 0) -> argument", "shock(7000, 10, 1, -1, 0) -> argument",
                "shock(7000, 10, 1, 0, 0) -> NONE");
        holds("a warmth is wanted, up to 10000",
                "shock(7000, 10, 1, MAX, 0) -> argument", "shock(7000, 10, 1, 10001, 0) -> argument",
                "shock(7000, 10, 1, 10000, 0) -> 1");
        holds("illegal argument: also if k is below 0",
                "shock(7000, 10, 1, 6000, MIN) -> argument", "shock(7000, 10, 1, 6000, -1) -> argument",
                "shock(7000, 10, 1, 6000, 0) -> 1");
        holds("the k-th pipe, by numbers; NONE if there are not so many",
                "shock(7000, 10, 1, 6000, 0) -> 1", "shock(7000, 10, 1, 6000, 1) -> 2",
                "shock(7000, 10, 1, 6000, 2) -> NONE", "shock(7000, 10, 1, 6000, MAX) -> NONE");
    }

    private static void whereItComes() {
        holds("it COMES if no plug is less warm than what is wanted: as warm is enough",
                "shock(7000, 10, 1, 2000, 0) -> NONE", "shock(7000, 10, 1, 2001, 0) -> 1");
        holds("it COMES if no plug is less warm: one that is keeps it away",
                "set(1, 5000)", "shock(4000, 20, 1, 5000, 0) -> 2", "shock(4000, 21, 1, 5000, 0) -> 1",
                "shock(4000, 10, 1, 5000, 0) -> NONE");
        Runs.holds("it COMES if one of its draws is so: the first one",
                "set(1, 5000)", "pipe(NONE, 10, 1000)", "tap(0)", "shock(0, 10, 30, 5000, 0) -> NONE");
        Runs.holds("it COMES if one of its draws is so: the last of 30",
                "pipe(NONE, 29, 1000)", "tap(0)", "shock(2500, 1, 29, 2500, 0) -> 0",
                "shock(2500, 1, 30, 2500, 0) -> NONE");
        Runs.holds("it does not COME when 30 minutes are too few by one",
                "pipe(NONE, 30, 1000)", "tap(0)", "shock(2500, 1, 30, 2500, 0) -> 0");
        holds("HEAT as warm as wanted comes from the heater itself",
                "set(1, 5000)", "shock(5000, 100, 1, 5000, 0) -> NONE",
                "shock(4999, 100, 1, 5000, 0) -> 1");
        Runs.holds("no tap, no pipe that is told",
                "pipe(NONE, 10, 1000)", "pipe(0, 10, 1000)", "shock(7000, 10, 1, 10000, 0) -> NONE",
                "tap(1)", "shock(7000, 10, 1, 10000, 0) -> 1", "shock(7000, 10, 1, 10000, 1) -> NONE");
        Runs.holds("all 10 taps may be told",
                "pipe(NONE, 10, 1000) x 10", "tap(0)", "tap(1)", "tap(2)", "tap(3)", "tap(4)",
                "tap(5)", "tap(6)", "tap(7)", "tap(8)", "tap(9)",
                "shock(7000, 10, 30, 10000, 9) -> 9", "shock(7000, 10, 30, 10000, 10) -> NONE");
    }

    private static void whatIsTried() {
        holds("HEAT has another warmth, whatever it has",
                "set(1, 5500)", "set(0, 10000)", "shock(6000, 100, 30, 6001, 0) -> 1", "set(0, 0)",
                "shock(6001, 100, 30, 6001, 0) -> NONE");
        holds("all draws are left out",
                "draw(1, 0, 100)", "draw(2, 0, 100)", "shock(7000, 1, 2, 6000, 0) -> 1",
                "shock(7000, 1, 2, 6000, 1) -> 2");
        holds("at each tap, by pipes' numbers: the first one fills the pipe of both",
                "shock(7000, 10, 2, 6990, 0) -> 1", "shock(7000, 10, 2, 6990, 1) -> NONE");
        holds("at each tap, the one of a pipe before too",
                "shock(7000, 5, 3, 6900, 0) -> 1", "shock(7000, 5, 3, 6900, 1) -> 2", "tap(0)",
                "shock(7000, 5, 3, 6900, 0) -> 1", "shock(7000, 5, 3, 6900, 1) -> NONE");
        holds("loops as in any minute, behind the draws",
                "loop(2, 20)", "shock(7000, 1, 1, 6000, 0) -> 1", "shock(7000, 1, 1, 6000, 1) -> 2",
                "shock(7000, 1, 2, 6000, 0) -> 1", "shock(7000, 1, 2, 6000, 1) -> NONE");
        Runs.holds("all else as in any minute: each plug cools, by the AIR of now",
                "pipe(NONE, 10, 10)", "tap(0)", "shock(7000, 10, 2, 6500, 0) -> NONE",
                "shock(7000, 10, 2, 6501, 0) -> 0", "run(1)", "set(1, 7000)",
                "shock(7000, 10, 2, 7000, 0) -> NONE");
        holds("a SHOCK is tried with the water of now",
                "shock(7000, 10, 1, 5990, 0) -> 1", "draw(1, 0, 30)", "draw(2, 0, 30)", "run(1)",
                "shock(0, 10, 1, 5996, 0) -> NONE", "shock(0, 10, 1, 5997, 0) -> 1");
        holds("a SHOCK may be tried when no minute is left",
                "run(100) x 30", "shock(7000, 10, 30, 6990, 0) -> NONE",
                "shock(7000, 10, 2, 6990, 0) -> 1", "run(1) -> state");
        holds("a SHOCK answers the same when it is tried again",
                "shock(7000, 10, 2, 6990, 0) -> 1", "shock(9000, 100, 30, 9000, 0) -> 1",
                "shock(0, 1, 1, 1, 0) -> NONE", "shock(7000, 10, 2, 6990, 0) -> 1",
                "shock(7000, 10, 2, 6990, 1) -> NONE");
    }

    private static void nothingIsChanged() {
        Runs.holdsAndLeavesAllAsItIs("nothing is changed by it: before the first minute",
                Runs.rows(HOUSE, Runs.some("draw(1, 0, 7)", "loop(2, 3)",
                "shock(10000, 100, 30, 10000, 0) -> 1")));
        Runs.holdsAndLeavesAllAsItIs("nothing is changed by it: between minutes",
                Runs.rows(HOUSE, Runs.some("draw(1, 0, 7)", "draw(2, 5, 7)", "loop(2, 3)", "run(4)",
                "set(0, 5000)", "shock(3000, 100, 30, 10000, 1) -> 2")));
        Runs.holdsAndLeavesAllAsItIs("nothing is changed by many of them",
                Runs.rows(HOUSE, Runs.some("draw(2, 0, 7)", "draw(1, 4, 9)", "loop(1, 3)", "run(3)",
                "shock(9000, 30, 30, 5000, 0) x 100")));
        Runs.holdsAndLeavesAllAsItIs("nothing is changed by it: behind the last minute",
                Runs.rows(HOUSE, Runs.some("loop(2, 3)", "run(100) x 30",
                "shock(3000, 1, 1, 0, 0) -> NONE")));
        Runs.holdsAndLeavesAllAsItIs("nothing is changed by it: no minute of 2500 .. 4500 is counted",
                Runs.rows(HOUSE, Runs.some("set(1, 3000)", "run(1)",
                "shock(3000, 1, 30, 0, 0) -> NONE")));
    }
}
