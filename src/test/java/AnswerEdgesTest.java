/** Each sentence on what there is that names a boundary: promises 8 to 13. */
public final class AnswerEdgesTest {
    // Pipes 1 and 2 go on from the end of pipe 0 and have taps; pipe 3 goes on from pipe 2.
    private static final String[] HOUSE = {"pipe(NONE, 10, 1000)", "pipe(0, 20, 1000)",
        "pipe(0, 30, 1000)", "pipe(2, 5, 1000)", "tap(1)", "tap(2)"};

    // The plug at the beginning has 2900, the others up to 2850, the one at the end 2000.
    private static final String[] TWELVE = {"pipe(NONE, 12, 1000)", "loop(0, 1)", "set(0, 2100)",
        "run(1)", "set(0, 2200)", "run(1)", "set(0, 2300)", "run(1)", "set(0, 2400)", "run(1)",
        "set(0, 2500)", "run(1)", "set(0, 2600)", "run(1)", "set(0, 2700)", "run(1)",
        "set(0, 2800)", "run(1)", "set(0, 2850)", "run(1)", "set(0, 2750)", "run(1)",
        "set(0, 2900)", "run(1)"};

    public static void main(String[] args) {
        promise8();
        promise9();
        promise9Tepid();
        promise10();
        promise11();
        promise12();
        promise13();
        questionsChangeNothing();
        Check.end();
    }

    private static void holds(String sentence, String... rows) {
        Runs.holds(sentence, Runs.rows(HOUSE, rows));
    }

    private static void promise8() {
        holds("the k-th plug, from its beginning on",
                "draw(1, 0, 15)", "run(1)", "plug(1, 0, 0) -> 5", "plug(1, 0, 1) -> 5996",
                "plug(1, 1, 0) -> 15", "plug(1, 1, 1) -> 2000");
        holds("plug: NONE if there are not so many",
                "plug(1, 1, 0) -> NONE", "plug(1, 1, 1) -> NONE", "draw(1, 0, 15)", "run(1)",
                "plug(1, 2, 0) -> NONE", "plug(1, 2, 1) -> NONE", "plug(1, 12, 0) -> NONE",
                "plug(1, MAX, 0) -> NONE", "plug(1, MAX, 1) -> NONE");
        Runs.holds("plug: NONE behind the 12th of a row of 12",
                Runs.rows(TWELVE, Runs.some("plug(0, 11, 0) -> 1", "plug(0, 11, 1) -> 2000",
                "plug(0, 12, 0) -> NONE", "plug(0, 12, 1) -> NONE")));
        holds("plug: illegal argument if k is below 0",
                "plug(1, -1, 0) -> argument", "plug(1, MIN, 1) -> argument");
        holds("plug: volume (what = 0), warmth (1), no other",
                "plug(1, 0, -1) -> argument", "plug(1, 0, 2) -> argument",
                "plug(1, 0, MIN) -> argument", "plug(1, 0, MAX) -> argument",
                "plug(1, 99, 2) -> argument");
        holds("plug: there is no such pipe",
                "plug(NONE, 0, 0) -> argument", "plug(4, 0, 0) -> argument",
                "plug(10, 0, 0) -> argument", "plug(MIN, 0, 0) -> argument",
                "plug(MAX, 99, 0) -> argument");
    }

    private static void promise9() {
        holds("told 0 and 1: of one plug its least warmth is its greatest",
                "told(1, 0) -> 2000", "told(1, 1) -> 2000");
        holds("told 0 and 1: the least and the greatest may stand in the middle",
                "loop(0, 2)", "set(0, 2300)", "run(1)", "set(0, 2900)", "run(1)", "set(0, 2100)",
                "run(1)", "set(0, 2400)", "run(1)", "set(0, 2500)", "run(1)",
                "row(0) -> 2@2500 2@2400 2@2100 2@2900 2@2300", "told(0, 0) -> 2100",
                "told(0, 1) -> 2900");
        holds("told 2: 0 if something flowed in the latest minute",
                "draw(1, 3, 1)", "run(4)", "told(0, 2) -> 0", "told(1, 2) -> 0");
        holds("told 2: 1 if something flowed in the minute before the latest",
                "draw(1, 3, 1)", "run(5)", "told(0, 2) -> 1", "told(1, 2) -> 1");
        holds("told 2: all if nothing did",
                "told(2, 2) -> 0", "draw(1, 0, 1)", "run(1)", "told(2, 2) -> 1", "run(99)",
                "told(2, 2) -> 100", "told(1, 2) -> 99");
        holds("told 2: minute 0 is one in which something may have flowed",
                "draw(1, 0, 1)", "run(1)", "told(1, 2) -> 0", "run(1)", "told(1, 2) -> 1");
        holds("told 2: a draw that is told has not flowed yet",
                "run(3)", "draw(1, 3, 1)", "told(1, 2) -> 3");
        holds("told 2: nothing flowed in all 3000 minutes",
                "run(100) x 30", "told(1, 2) -> 3000", "dead(3000, 0) -> 0");
        holds("told: 0, 1, 2, 3 and no other",
                "told(0, -1) -> argument", "told(0, 4) -> argument", "told(0, MIN) -> argument",
                "told(0, MAX) -> argument");
        holds("told: there is no such pipe",
                "told(NONE, 0) -> argument", "told(4, 0) -> argument", "told(10, 3) -> argument",
                "told(MIN, 2) -> argument", "told(MAX, 1) -> argument");
    }

    private static void promise9Tepid() {
        holds("told 3: 2499 is too little", "set(1, 2499)", "run(4)", "told(0, 3) -> 0");
        holds("told 3: 2500 is enough", "set(1, 2500)", "run(4)", "told(0, 3) -> 4");
        holds("told 3: 4500 is still counted", "set(1, 4500)", "run(4)", "told(0, 3) -> 4");
        holds("told 3: 4501 is too much", "set(1, 4501)", "run(4)", "told(0, 3) -> 0");
        holds("told 3: no minute has ended yet", "set(1, 3000)", "told(0, 3) -> 0");
        holds("told 3: its least warmth, never mind the greatest",
                "set(1, 2400)", "set(0, 3000)", "loop(0, 9)", "run(1)", "told(0, 1) -> 3000",
                "told(0, 3) -> 0", "run(1)", "told(0, 0) -> 3000", "told(0, 3) -> 1",
                "set(0, 9000)", "run(1)", "told(0, 1) -> 8994", "told(0, 3) -> 2");
        Runs.holds("told 3: at the minute's end, when it has cooled",
                "pipe(NONE, 10, 2)", "loop(0, 10)", "set(0, 7000)", "run(1)", "told(0, 0) -> 4500",
                "told(0, 3) -> 1", "set(0, 7002)", "run(1)", "told(0, 0) -> 4501",
                "told(0, 3) -> 1", "set(0, 3000)", "run(1)", "told(0, 0) -> 2500",
                "told(0, 3) -> 2", "set(0, 2998)", "run(1)", "told(0, 0) -> 2499",
                "told(0, 3) -> 2");
        holds("told 3: minutes are counted that do not follow one another",
                "set(1, 3000)", "run(2)", "set(0, 2000)", "loop(0, 10)", "run(1)",
                "told(0, 3) -> 2", "set(0, 3500)", "run(1)", "told(0, 3) -> 3");
    }

    private static void promise10() {
        holds("dead: in 0 latest minutes nothing flowed through any pipe",
                "draw(1, 0, 1)", "run(1)", "dead(0, 0) -> 0", "dead(0, 1) -> 1", "dead(0, 2) -> 2",
                "dead(0, 3) -> 3", "dead(0, 4) -> NONE");
        holds("dead: something flowed in the latest one",
                "draw(1, 0, 1)", "run(1)", "dead(1, 0) -> 2", "dead(1, 1) -> 3",
                "dead(1, 2) -> NONE");
        holds("dead: nothing flowed in as many minutes as are over since, but in one more",
                "draw(1, 0, 1)", "run(4)", "dead(3, 0) -> 0", "dead(3, 1) -> 1", "dead(4, 0) -> 2",
                "dead(4, 1) -> 3", "dead(4, 2) -> NONE");
        holds("dead: never mind how many are over: none is",
                "dead(0, 0) -> 0", "dead(1, 0) -> 0", "dead(MAX, 3) -> 3", "dead(MAX, 4) -> NONE");
        holds("dead: never mind how many are over: fewer than asked are",
                "draw(2, 0, 1)", "run(2)", "dead(2, 0) -> 1", "dead(3, 0) -> 1", "dead(3, 1) -> 3",
                "dead(3, 2) -> NONE", "dead(MAX, 0) -> 1", "dead(MAX, 1) -> 3",
                "dead(MAX, 2) -> NONE");
        holds("dead: NONE if there are not so many",
                "dead(0, 3) -> 3", "dead(0, 4) -> NONE", "dead(0, MAX) -> NONE", "loop(1, 1)",
                "loop(3, 1)", "run(1)", "dead(1, 0) -> NONE");
        holds("dead: 0 minutes or more",
                "dead(-1, 0) -> argument", "dead(MIN, 0) -> argument");
        holds("dead: illegal argument if k is below 0",
                "dead(0, -1) -> argument", "dead(0, MIN) -> argument");
    }

    private static void promise11() {
        holds("warm: 0 if such a plug stands at the end",
                "warm(1, 0) -> 0", "warm(1, 1999) -> 0", "warm(1, 2000) -> 0");
        holds("warm: such a warmth, or more; one more comes from the heater",
                "warm(1, 2001) -> 30", "warm(1, 6000) -> 30", "warm(3, 6000) -> 45");
        holds("warm: NONE if none ever would",
                "warm(1, 6001) -> NONE", "warm(1, 10000) -> NONE", "set(0, 10000)",
                "warm(1, 10000) -> 30", "set(0, 9999)", "warm(1, 10000) -> NONE");
        holds("warm: a warmth of 0 always comes",
                "set(1, 0)", "set(0, 0)", "warm(1, 0) -> 0", "warm(1, 1) -> NONE");
        holds("warm: a plug in the pipe, in the one before, in none",
                "draw(1, 0, 15)", "run(1)", "set(0, 100)", "warm(1, 5996) -> 15",
                "warm(2, 5996) -> 30", "warm(3, 5996) -> 35", "warm(0, 5996) -> 0",
                "warm(1, 5997) -> NONE", "warm(2, 5997) -> NONE");
        holds("warm: colder plugs behind do not matter, the nearest warm one counts",
                "draw(1, 0, 30)", "draw(1, 1, 5)", "run(1)", "row(1) -> 20@5996", "set(0, 2100)",
                "run(1)", "warm(1, 5993) -> 0", "warm(1, 2001) -> 0", "set(0, 7000)",
                "warm(1, 5994) -> 30");
        Runs.holds("warm: the first and the last of a row of 12",
                Runs.rows(TWELVE, Runs.some("set(0, 0)", "warm(0, 2000) -> 0", "warm(0, 2001) -> 1",
                "warm(0, 2900) -> 11", "warm(0, 2901) -> NONE")));
        holds("warm: what has left the pipe comes no more",
                "loop(0, 5)", "set(0, 2900)", "run(2)", "set(0, 2100)", "run(1)",
                "row(0) -> 5@2100 5@2900", "warm(0, 2900) -> 0", "run(1)", "row(0) -> 10@2100",
                "warm(0, 2101) -> NONE");
        holds("warm: a warmth 0 .. 10000",
                "warm(1, -1) -> argument", "warm(1, 10001) -> argument", "warm(1, MIN) -> argument",
                "warm(1, MAX) -> argument");
        holds("warm: there is no such pipe",
                "warm(NONE, 0) -> argument", "warm(4, 0) -> argument", "warm(10, 0) -> argument",
                "warm(MIN, 0) -> argument", "warm(MAX, 0) -> argument");
    }

    private static void promise12() {
        holds("drawn: the sum by its volume, rounded down",
                "draw(1, 0, 31)", "draw(1, 1, 1)", "run(2)", "drawn(0, 0) -> 2129",
                "drawn(1, 0) -> 5996");
        holds("drawn 1 and 2: of one plug the least warm is the warmest",
                "draw(1, 0, 30)", "run(1)", "drawn(0, 0) -> 2000", "drawn(0, 1) -> 2000",
                "drawn(0, 2) -> 2000");
        holds("drawn 1 and 2: of more plugs they are apart",
                "draw(1, 0, 31)", "run(1)", "drawn(0, 1) -> 2000", "drawn(0, 2) -> 6000");
        holds("drawn: NONE if its minute is not over",
                "draw(1, 1, 5)", "drawn(0, 0) -> NONE", "drawn(0, 1) -> NONE",
                "drawn(0, 2) -> NONE", "run(1)", "drawn(0, 0) -> NONE", "drawn(0, 1) -> NONE",
                "drawn(0, 2) -> NONE", "run(1)", "drawn(0, 0) -> 2000", "drawn(0, 1) -> 2000",
                "drawn(0, 2) -> 2000");
        holds("drawn: what came stays, though HEAT and the AIR change",
                "draw(1, 0, 31)", "run(1)", "set(0, 0)", "set(1, 0)", "run(100)",
                "drawn(0, 0) -> 2129", "drawn(0, 2) -> 6000");
        holds("drawn: of water of warmth 0",
                "set(1, 0)", "draw(1, 0, 5)", "run(1)", "drawn(0, 0) -> 0", "drawn(0, 1) -> 0",
                "drawn(0, 2) -> 0");
        holds("drawn: of water of warmth 10000",
                "set(1, 10000)", "draw(1, 0, 5)", "run(1)", "drawn(0, 0) -> 10000",
                "drawn(0, 1) -> 10000", "drawn(0, 2) -> 10000");
        holds("drawn: illegal argument if there is no such draw",
                "drawn(0, 0) -> argument", "draw(1, 0, 5)", "drawn(0, 0) -> NONE",
                "drawn(1, 0) -> argument", "drawn(-1, 0) -> argument", "drawn(60, 0) -> argument",
                "drawn(MIN, 0) -> argument", "drawn(MAX, 0) -> argument");
        holds("drawn: 0, 1, 2 and no other",
                "draw(1, 0, 5)", "drawn(0, -1) -> argument", "drawn(0, 3) -> argument", "run(1)",
                "drawn(0, -1) -> argument", "drawn(0, 3) -> argument", "drawn(0, MIN) -> argument",
                "drawn(0, MAX) -> argument");
    }

    private static void promise13() {
        holds("heat: 0, 1, 2, 3 and no other",
                "heat(-1) -> argument", "heat(4) -> argument", "heat(MIN) -> argument",
                "heat(MAX) -> argument");
        holds("heat: HELD is there before the first minute, the others are 0",
                "heat(0) -> 130000", "heat(1) -> 0", "heat(2) -> 0", "heat(3) -> 0");
        holds("heat: nothing is HELD at warmth 0",
                "set(1, 0)", "heat(0) -> 0", "run(1)", "heat(0) -> 0", "heat(3) -> 0");
        holds("heat: GIVEN and OUT are more than an int holds",
                "set(0, 10000)", "set(1, 10000)", "loop(0, 500)", "loop(1, 500)", "run(100) x 30",
                "heat(1) -> 30000000000", "heat(2) -> 30000000000", "heat(3) -> 0");
        Runs.holds("heat: LOST is more than an int holds",
                "set(0, 10000)", "set(1, 0)", "pipe(NONE, 1000, 1)", "loop(0, 500)",
                "run(100) x 30", "heat(0) -> 0", "heat(1) -> 15000000000", "heat(2) -> 0",
                "heat(3) -> 15000000000");
        Runs.holds("heat: LOST is more below 0 than an int holds",
                "set(0, 0)", "set(1, 10000)", "pipe(NONE, 1000, 1)", "loop(0, 500)",
                "run(100) x 30", "heat(0) -> 10000000", "heat(1) -> 0", "heat(2) -> 15000000000",
                "heat(3) -> -15000000000");
    }

    private static void questionsChangeNothing() {
        String[] questions = {"plug(1, 0, 1) -> 5996", "told(1, 1) -> 5996", "dead(1, 0) -> 2",
            "warm(1, 5996) -> 15", "drawn(0, 0) -> 2000", "heat(0) -> 189940"};
        for (String question : questions) {
            Runs.holdsAndLeavesAllAsItIs("what there is is only told",
                    Runs.rows(HOUSE, Runs.some("draw(1, 0, 15)", "run(1)", question)));
        }
    }
}
