import java.util.ArrayList;
import java.util.Arrays;
import java.util.List;

/**
 * Runs of calls on a new object, written as rows:
 * "told(0, 2) -> 5" (the answer that is due), "run(0) -> argument" and "run(2) -> state" (the call
 * is refused so), "row(0) -> 5@6000 5@2000" (a pipe's plugs), "run(100) x 30" (so often, whatever
 * it answers). A refused call and a question must change nothing: behind each of them many later
 * calls are asked, and answer as on an object that never heard of it.
 */
final class Runs {
    // The document says nothing of an object behind so many calls, so no test goes there.
    private static final int MOST_CALLS = 512;

    private final HotLoops x = new HotLoops();
    private int calls = 0;

    private Runs() {
    }

    static String[] some(String... rows) {
        return rows;
    }

    static String[] rows(String[]... parts) {
        return Arrays.stream(parts).flatMap(Arrays::stream).toArray(String[]::new);
    }

    static void holds(String sentence, String... rows) {
        Runs run = new Runs();
        for (int i = 0; i < rows.length; i++) {
            run.play(sentence, rows[i]);
            if (isRefused(rows[i])) {
                changesNothing(sentence, rows, i);
            }
        }
        run.count(sentence);
    }

    /** The last row is legal, and yet all later calls answer as if it had not been. */
    static void holdsAndLeavesAllAsItIs(String sentence, String... rows) {
        holds(sentence, rows);
        changesNothing(sentence, rows, rows.length - 1);
    }

    private static void changesNothing(String sentence, String[] rows, int at) {
        Runs with = new Runs();
        Runs without = new Runs();
        for (int i = 0; i < at; i++) {
            with.play(sentence, rows[i]);
            if (!isRefused(rows[i])) {
                without.play(sentence, rows[i]);
            }
        }
        with.play(sentence, rows[at]);
        String behind = sentence + " | behind " + rows[at] + ", later calls";
        Check.same(behind, with.later(), without.later());
        with.count(sentence);
    }

    private static boolean isRefused(String row) {
        return row.endsWith("-> argument") || row.endsWith("-> state");
    }

    private void play(String sentence, String row) {
        int arrow = row.indexOf("->");
        if (arrow >= 0) {
            String call = row.substring(0, arrow).trim();
            Check.same(sentence + " | " + call, ask(call), due(row.substring(arrow + 2).trim()));
            return;
        }
        int times = row.indexOf(" x ");
        String call = times < 0 ? row : row.substring(0, times);
        for (int i = times < 0 ? 1 : Integer.parseInt(row.substring(times + 3)); i > 0; i--) {
            String answer = ask(call);
            Check.is(sentence + " | " + call + " throws " + answer, answer.endsWith("Exception"), false);
        }
    }

    private static String due(String text) {
        switch (text) {
            case "argument": return Calls.ARGUMENT;
            case "state": return Calls.STATE;
            default: return text.indexOf('@') < 0 ? Long.toString(Calls.number(text)) : text;
        }
    }

    private String ask(String call) {
        if (call.startsWith("row(")) {
            return row(Integer.parseInt(call.substring(4, call.indexOf(')'))));
        }
        calls++;
        return Calls.answer(x, call);
    }

    private String row(int pipe) {
        StringBuilder text = new StringBuilder();
        String none = Integer.toString(HotLoops.NONE);
        String volume = ask("plug(" + pipe + ", 0, 0)");
        for (int k = 1; k < 100 && !volume.equals(none) && !volume.equals(Calls.ARGUMENT); k++) {
            text.append(k == 1 ? "" : " ").append(volume);
            text.append('@').append(ask("plug(" + pipe + ", " + (k - 1) + ", 1)"));
            volume = ask("plug(" + pipe + ", " + k + ", 0)");
        }
        return text.toString();
    }

    private void count(String sentence) {
        Check.is(sentence + " | " + calls + " calls are few enough", calls <= MOST_CALLS, true);
    }

    /** All that can be seen; then calls that change things, and all that can be seen then. */
    private String later() {
        List<String> told = new ArrayList<>();
        int pipes = tellAll(told);
        // First of all what HEAT and the AIR were: a shock of this list could hide a change of theirs.
        tell(told, "set(0, 7000)");
        tell(told, "set(1, 1500)");
        tell(told, "shock(9000, 7, 3, 5000, 0)");
        tell(told, "shock(9000, 70, 30, 5000, 1)");
        for (int pipe = 0; pipe < pipes; pipe++) {
            tell(told, "draw(" + pipe + ", 2999, 3)");
            tell(told, "tap(" + pipe + ")");
            tell(told, "loop(" + pipe + ", " + (pipe + 1) + ")");
        }
        if (pipes < 10) { // a refused call here would hide what an earlier one did
            tell(told, "pipe(NONE, 3, 3)");
        }
        tell(told, "run(1)");
        tell(told, "set(0, 5000)");
        tell(told, "set(1, 1000)");
        tell(told, "run(2)");
        tellAll(told);
        return told.toString();
    }

    /** How many pipes there are. */
    private int tellAll(List<String> told) {
        for (int what = 0; what < 4; what++) {
            tell(told, "heat(" + what + ")");
        }
        int pipes = 0;
        while (pipes < 10 && !ask("told(" + pipes + ", 0)").equals(Calls.ARGUMENT)) {
            told.add("row(" + pipes + ") " + row(pipes));
            for (int what = 2; what < 4; what++) {
                tell(told, "told(" + pipes + ", " + what + ")");
            }
            tell(told, "warm(" + pipes + ", 2500)");
            pipes++;
        }
        tell(told, "dead(2, 0)");
        int draw = 0;
        while (draw < 60 && !ask("drawn(" + draw + ", 1)").equals(Calls.ARGUMENT)) {
            tell(told, "drawn(" + draw + ", 0)");
            draw++;
        }
        told.add(draw + " draws");
        return pipes;
    }

    private void tell(List<String> told, String call) {
        told.add(call + " = " + ask(call));
    }
}
