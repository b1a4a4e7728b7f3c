/** Each sentence on pipes, taps, warmths and loops that names a boundary: Terms, promises 1 to 5. */
public final class PipeEdgesTest {
    public static void main(String[] args) {
        termsOfPipes();
        termsOfPlugs();
        promise1();
        promise2();
        promise3();
        promise4();
        promise5();
        Check.end();
    }

    private static void termsOfPipes() {
        Runs.holds("PIPES are 0 .. 9, as they come",
                "pipe(NONE, 5, 5) -> 0", "pipe(0, 5, 5) -> 1", "pipe(NONE, 5, 5) -> 2",
                "pipe(2, 5, 5) -> 3", "pipe(0, 5, 5) -> 4", "pipe(4, 5, 5) -> 5",
                "pipe(5, 5, 5) -> 6", "pipe(6, 5, 5) -> 7", "pipe(7, 5, 5) -> 8",
                "pipe(8, 5, 5) -> 9", "told(9, 0) -> 2000", "told(10, 0) -> argument");
        Runs.holds("each from the HEATER or from the end of an earlier one",
                "pipe(0, 7, 5) -> argument", "pipe(NONE, 7, 5) -> 0", "pipe(1, 7, 5) -> argument",
                "pipe(0, 20, 5) -> 1", "pipe(2, 7, 5) -> argument", "pipe(3, 7, 5) -> argument",
                "pipe(NONE, 100, 5) -> 2", "pipe(1, 400, 5) -> 3", "warm(0, 6000) -> 7",
                "warm(1, 6000) -> 27", "warm(2, 6000) -> 100", "warm(3, 6000) -> 427");
        Runs.holds("with a VOLUME, 1 or more",
                "pipe(NONE, MIN, 5) -> argument", "pipe(NONE, -1, 5) -> argument",
                "pipe(NONE, 0, 5) -> argument", "pipe(NONE, 1, 5) -> 0", "row(0) -> 1@2000");
        Runs.holds("with a VOLUME, up to 1000",
                "pipe(NONE, MAX, 5) -> argument", "pipe(NONE, 1001, 5) -> argument",
                "pipe(NONE, 1000, 5) -> 0", "row(0) -> 1000@2000");
        Runs.holds("a number LEADS, 1 or more",
                "pipe(NONE, 5, MIN) -> argument", "pipe(NONE, 5, -1) -> argument",
                "pipe(NONE, 5, 0) -> argument", "pipe(NONE, 5, 1) -> 0");
        Runs.holds("a number LEADS, up to 1000",
                "pipe(NONE, 5, MAX) -> argument", "pipe(NONE, 5, 1001) -> argument",
                "pipe(NONE, 5, 1000) -> 0");
        Runs.holds("with LEADS 1 a plug has the AIR's warmth at the minute's end",
                "pipe(NONE, 10, 1)", "loop(0, 4)", "run(1)", "row(0) -> 10@2000",
                "heat(3) -> 16000");
        Runs.holds("with LEADS 1000 a plug that is less than 1000 warmer stays as it is",
                "pipe(NONE, 10, 1000)", "loop(0, 4)", "set(0, 2999)", "run(1)",
                "row(0) -> 4@2999 6@2000", "set(0, 3000)", "run(1)",
                "row(0) -> 8@2999 2@2000",
                "heat(3) -> 4");
    }

    private static void termsOfPlugs() {
        Runs.holds("a plug's volume is 1 or more: none is left of what is taken to its last bit",
                "pipe(NONE, 10, 1000)", "loop(0, 5)", "set(0, 2500)", "run(1)",
                "row(0) -> 5@2500 5@2000", "set(0, 2600)", "run(1)", "row(0) -> 5@2600 5@2500",
                "plug(0, 2, 0) -> NONE", "told(0, 0) -> 2500");
        Runs.holds("a plug of volume 1 may be left",
                "pipe(NONE, 10, 1000)", "loop(0, 9)", "set(0, 2500)", "run(1)",
                "row(0) -> 9@2500 1@2000");
        Runs.holds("a WARMTH may be 0",
                "set(1, 0)", "set(0, 0)", "pipe(NONE, 10, 1)", "loop(0, 3)", "row(0) -> 10@0",
                "run(1)", "row(0) -> 10@0", "told(0, 0) -> 0", "told(0, 1) -> 0", "heat(1) -> 0",
                "heat(3) -> 0");
        Runs.holds("a WARMTH may be 10000",
                "set(1, 10000)", "set(0, 10000)", "pipe(NONE, 10, 1)", "loop(0, 3)",
                "row(0) -> 10@10000", "run(1)", "row(0) -> 10@10000", "told(0, 0) -> 10000",
                "told(0, 1) -> 10000", "heat(2) -> 30000", "heat(3) -> 0");
        Runs.holds("neighbours of the same warmth are one: the heater's plug and the row's first",
                "pipe(NONE, 10, 1000)", "loop(0, 3)", "set(0, 2500)", "run(2)",
                "row(0) -> 6@2500 4@2000", "set(0, 2000)", "run(1)",
                "row(0) -> 3@2000 6@2500 1@2000");
        Runs.holds("neighbours of the same warmth are one: what comes from the pipe before",
                "pipe(NONE, 10, 1000)", "pipe(0, 10, 1000)", "loop(1, 5)", "run(1)",
                "row(1) -> 10@2000");
        Runs.holds("At first it is one plug of the warmth of the AIR",
                "pipe(NONE, 10, 1000)", "row(0) -> 10@2000", "told(0, 0) -> 2000",
                "told(0, 1) -> 2000", "set(1, 17)", "pipe(0, 3, 3)", "row(1) -> 3@17");
    }

    private static void promise1() {
        Runs.holds("A new object: HEAT is 6000, the AIR 2000",
                "set(0, 1) -> 6000", "set(1, 1) -> 2000");
        Runs.holds("A new object: the heater alone, so there is no pipe",
                "tap(0) -> argument", "loop(0, 5) -> argument", "draw(0, 0, 5) -> argument",
                "plug(0, 0, 0) -> argument", "told(0, 0) -> argument", "warm(0, 0) -> argument",
                "dead(0, 0) -> NONE", "shock(7000, 10, 1, 6000, 0) -> NONE");
        Runs.holds("A new object: the heater alone, so there is no draw",
                "drawn(0, 0) -> argument");
        Runs.holds("A new object: the heater alone, so nothing is held, given, out or lost",
                "heat(0) -> 0", "heat(1) -> 0", "heat(2) -> 0", "heat(3) -> 0", "run(100) -> 100",
                "heat(0) -> 0", "heat(1) -> 0", "heat(2) -> 0", "heat(3) -> 0");
        Runs.holds("A new object: minute 0 comes",
                "pipe(NONE, 5, 5)", "tap(0)", "draw(0, 0, 1) -> 0", "run(1) -> 1",
                "drawn(0, 0) -> 2000", "draw(0, 0, 1) -> state");
    }

    private static void promise2() {
        Runs.holds("from another one, or the heater (NONE): no other number",
                "pipe(NONE, 5, 5) -> 0", "pipe(-2, 5, 5) -> argument", "pipe(MIN, 5, 5) -> argument",
                "pipe(10, 5, 5) -> argument", "pipe(MAX, 5, 5) -> argument", "pipe(0, 5, 5) -> 1");
        Runs.holds("illegal state: there are 10",
                "pipe(NONE, 5, 5) x 9", "pipe(8, 5, 5) -> 9", "pipe(9, 5, 5) -> state",
                "pipe(NONE, 5, 5) -> state", "tap(9) -> true", "tap(10) -> argument",
                "dead(0, 9) -> 9", "dead(0, 10) -> NONE");
        Runs.holds("illegal state: or a minute is over",
                "pipe(NONE, 5, 5)", "run(1)", "pipe(0, 5, 5) -> state", "pipe(NONE, 5, 5) -> state",
                "told(1, 0) -> argument", "run(99)", "pipe(0, 5, 5) -> state");
        Runs.holds("a minute is over of the heater alone, too",
                "run(1)", "pipe(NONE, 5, 5) -> state", "told(0, 0) -> argument");
        Runs.holds("a refused run is no minute that is over",
                "run(0) -> argument", "run(101) -> argument", "pipe(NONE, 5, 5) -> 0");
        Runs.holds("there are 10: the illegal argument is named first",
                "pipe(NONE, 5, 5) x 10", "pipe(10, 5, 5) -> argument", "pipe(-2, 5, 5) -> argument",
                "pipe(9, 0, 5) -> argument", "pipe(9, 1001, 5) -> argument",
                "pipe(9, 5, 0) -> argument", "pipe(9, 5, 1001) -> argument");
        Runs.holds("a minute is over: the illegal argument is named first",
                "pipe(NONE, 5, 5)", "run(1)", "pipe(1, 5, 5) -> argument",
                "pipe(-2, 5, 5) -> argument", "pipe(0, 0, 5) -> argument",
                "pipe(0, 1001, 5) -> argument", "pipe(0, 5, 0) -> argument",
                "pipe(0, 5, 1001) -> argument");
    }

    private static void promise3() {
        Runs.holds("a TAP: false if it had one",
                "pipe(NONE, 5, 5)", "pipe(0, 5, 5)", "tap(0) -> true", "tap(0) -> false",
                "tap(1) -> true", "tap(0) -> false", "tap(1) -> false", "run(1)",
                "tap(1) -> false");
        Runs.holds("a TAP at a pipe's end: of that pipe alone",
                "pipe(NONE, 5, 5)", "pipe(0, 5, 5)", "pipe(1, 5, 5)", "tap(1)",
                "draw(0, 0, 5) -> state", "draw(2, 0, 5) -> state", "draw(1, 0, 5) -> 0");
        Runs.holds("a TAP may come when minutes are over",
                "pipe(NONE, 5, 5)", "run(100) x 30", "tap(0) -> true", "tap(0) -> false",
                "shock(2000, 1, 1, 2001, 0) -> 0");
        Runs.holds("a TAP: there is no such pipe",
                "pipe(NONE, 5, 5)", "tap(MIN) -> argument", "tap(NONE) -> argument",
                "tap(1) -> argument", "tap(10) -> argument", "tap(MAX) -> argument",
                "pipe(0, 5, 5)", "tap(1) -> true");
    }

    private static void promise4() {
        Runs.holds("HEAT (what = 0) or the warmth of the AIR (1): no other",
                "set(MIN, 5) -> argument", "set(-1, 5) -> argument", "set(2, 5) -> argument",
                "set(MAX, 5) -> argument", "set(0, 5) -> 6000", "set(1, 5) -> 2000");
        Runs.holds("HEAT 0 .. 10000",
                "pipe(NONE, 5, 5)", "set(0, MIN) -> argument", "set(0, -1) -> argument",
                "set(0, 10001) -> argument", "set(0, MAX) -> argument", "set(0, 0) -> 6000",
                "set(0, 10000) -> 0", "set(0, 1) -> 10000");
        Runs.holds("the AIR 0 .. 10000",
                "pipe(NONE, 5, 5)", "set(1, MIN) -> argument", "set(1, -1) -> argument",
                "set(1, 10001) -> argument", "set(1, MAX) -> argument", "row(0) -> 5@2000",
                "set(1, 0) -> 2000", "row(0) -> 5@0", "set(1, 10000) -> 0", "row(0) -> 5@10000",
                "set(1, 1) -> 10000");
        Runs.holds("what it was: HEAT and the AIR apart",
                "set(0, 3000) -> 6000", "set(1, 4000) -> 2000", "set(0, 5000) -> 3000",
                "set(1, 6000) -> 4000", "set(0, 5000) -> 5000");
        Runs.holds("As long as no minute is over all pipes get the AIR's new warmth",
                "pipe(NONE, 5, 5)", "pipe(0, 7, 1000)", "tap(1)", "loop(0, 2)", "draw(1, 0, 4)",
                "set(1, 9999)", "row(0) -> 5@9999", "row(1) -> 7@9999", "heat(0) -> 119988",
                "heat(3) -> 0");
        Runs.holds("when a minute is over no pipe gets it at once",
                "pipe(NONE, 5, 1000)", "run(1)", "set(1, 9999) -> 2000", "row(0) -> 5@2000",
                "heat(0) -> 10000", "run(1)", "row(0) -> 5@2007", "heat(3) -> -35");
        Runs.holds("HEAT is no warmth of the pipes",
                "pipe(NONE, 5, 5)", "set(0, 9000)", "row(0) -> 5@2000");
    }

    private static void promise5() {
        Runs.holds("A LOOP, 0 or more", "pipe(NONE, 5, 1000)", "loop(0, MIN) -> argument",
                "loop(0, -1) -> argument", "loop(0, 0) -> 0", "loop(0, 1) -> 0", "run(1)",
                "row(0) -> 1@5996 4@2000");
        Runs.holds("A LOOP, up to 500", "pipe(NONE, 5, 1000)", "loop(0, MAX) -> argument",
                "loop(0, 501) -> argument", "loop(0, 500) -> 0", "run(1)", "heat(1) -> 3000000",
                "heat(2) -> 2980000");
        Runs.holds("a LOOP: what it was, 0 at first",
                "pipe(NONE, 5, 5)", "pipe(0, 5, 5)", "loop(0, 7) -> 0", "loop(1, 9) -> 0",
                "loop(0, 501) -> argument", "loop(0, 8) -> 7", "loop(1, 0) -> 9", "loop(1, 3) -> 0");
        Runs.holds("a LOOP: 0 is none, nothing flows",
                "pipe(NONE, 5, 5)", "run(2)", "told(0, 2) -> 2", "heat(1) -> 0", "loop(0, 5)",
                "run(1)", "told(0, 2) -> 0", "heat(1) -> 30000", "loop(0, 0)", "run(3)",
                "told(0, 2) -> 3", "heat(1) -> 30000");
        Runs.holds("a LOOP needs no tap, and is none",
                "pipe(NONE, 5, 5)", "loop(0, 2)", "draw(0, 0, 1) -> state",
                "shock(9000, 1, 1, 10000, 0) -> NONE", "tap(0) -> true");
        Runs.holds("a LOOP: there is no such pipe",
                "pipe(NONE, 5, 5)", "loop(MIN, 5) -> argument", "loop(NONE, 5) -> argument",
                "loop(1, 5) -> argument", "loop(10, 5) -> argument", "loop(MAX, 5) -> argument",
                "pipe(0, 5, 5)", "loop(1, 5) -> 0");
    }
}
