import java.util.Arrays;

/** Calls of the face by name, so that a test can write them down, repeat them and compare them. */
final class Calls {
    static final String ARGUMENT = "IllegalArgumentException";
    static final String STATE = "IllegalStateException";

    private Calls() {
    }

    /** A boolean counts 1 or 0. */
    static long call(HotLoops x, String name, int... a) {
        switch (name) {
            case "pipe": return x.pipe(a[0], a[1], a[2]);
            case "tap": return x.tap(a[0]) ? 1 : 0;
            case "set": return x.set(a[0], a[1]);
            case "loop": return x.loop(a[0], a[1]);
            case "draw": return x.draw(a[0], a[1], a[2]);
            case "run": return x.run(a[0]);
            case "plug": return x.plug(a[0], a[1], a[2]);
            case "told": return x.told(a[0], a[1]);
            case "dead": return x.dead(a[0], a[1]);
            case "warm": return x.warm(a[0], a[1]);
            case "drawn": return x.drawn(a[0], a[1]);
            case "heat": return x.heat(a[0]);
            case "shock": return x.shock(a[0], a[1], a[2], a[3], a[4]);
            default: throw new UnsupportedOperationException(name);
        }
    }

    interface Call {
        long answer();
    }

    /** What a call answers, or the name of what it throws: one that the document knows. */
    static String answer(Call call) {
        try {
            return Long.toString(call.answer());
        } catch (RuntimeException e) {
            String name = e.getClass().getSimpleName();
            Check.is("a call throws " + e, name.equals(ARGUMENT) || name.equals(STATE), true);
            return name;
        }
    }

    /** What a written call such as told(0, 2) answers; NONE, MIN and MAX stand for numbers. */
    static String answer(HotLoops x, String written) {
        int open = written.indexOf('(');
        String name = written.substring(0, open);
        int[] a = Arrays.stream(written.substring(open + 1, written.indexOf(')')).split(","))
                .mapToInt(text -> (int) number(text.trim())).toArray();
        return answer(() -> call(x, name, a));
    }

    static long number(String text) {
        switch (text) {
            case "NONE": return HotLoops.NONE;
            case "MIN": return Integer.MIN_VALUE;
            case "MAX": return Integer.MAX_VALUE;
            case "true": return 1;
            case "false": return 0;
            default: return Long.parseLong(text);
        }
    }
}
