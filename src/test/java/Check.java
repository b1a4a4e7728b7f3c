/** Counts the answers that are not as due; every test ends with end(). */
final class Check {
    private static int wrong = 0;
    private static int asked = 0;

    private Check() {
    }

    static void is(String call, long got, long due) {
        asked++;
        if (got != due) {
            wrong++;
            System.out.println(call + " answered " + got + ", due is " + due);
        }
    }

    static void is(String call, boolean got, boolean due) {
        is(call, got ? 1 : 0, due ? 1 : 0);
    }

    static void same(String call, String got, String due) {
        asked++;
        if (!got.equals(due)) {
            wrong++;
            System.out.println(call + " answered " + got + ", due is " + due);
        }
    }

    /** The call must throw an illegal argument, and leave what one can see of the object alone. */
    static void badArgument(HotLoops x, String call, Runnable body) {
        refuses(x, call, body, IllegalArgumentException.class);
    }

    /** The call must throw an illegal state, and leave what one can see of the object alone. */
    static void badState(HotLoops x, String call, Runnable body) {
        refuses(x, call, body, IllegalStateException.class);
    }

    private static void refuses(HotLoops x, String call, Runnable body, Class<?> due) {
        String before = seen(x);
        String got = "nothing";
        try {
            body.run();
        } catch (RuntimeException e) {
            got = e.getClass().getName();
        }
        same(call + " throws", got, due.getName());
        same(call + " refused, what is seen then", seen(x), before);
    }

    /** All that the questions without a trial tell of an object. */
    static String seen(HotLoops x) {
        StringBuilder text = new StringBuilder();
        for (int what = 0; what < 4; what++) {
            text.append(x.heat(what)).append(' ');
        }
        int pipes = 0;
        while (x.dead(0, pipes) != HotLoops.NONE) {
            pipes++;
        }
        for (int pipe = 0; pipe < pipes; pipe++) {
            text.append("| ").append(row(x, pipe)).append("; ");
            for (int what = 0; what < 4; what++) {
                text.append(x.told(pipe, what)).append(' ');
            }
            for (int warmth = 0; warmth <= 10000; warmth += 2000) {
                text.append(x.warm(pipe, warmth)).append(' ');
            }
        }
        for (int draw = 0; draw < 60 && isDraw(x, draw); draw++) {
            text.append("| ");
            for (int what = 0; what < 3; what++) {
                text.append(x.drawn(draw, what)).append(' ');
            }
        }
        return text.toString();
    }

    /** A pipe's plugs as volume@warmth. */
    static String row(HotLoops x, int pipe) {
        StringBuilder text = new StringBuilder();
        for (int k = 0; x.plug(pipe, k, 0) != HotLoops.NONE; k++) {
            text.append(k == 0 ? "" : " ").append(x.plug(pipe, k, 0));
            text.append('@').append(x.plug(pipe, k, 1));
        }
        return text.toString();
    }

    private static boolean isDraw(HotLoops x, int draw) {
        try {
            x.drawn(draw, 0);
            return true;
        } catch (IllegalArgumentException e) {
            return false;
        }
    }

    static void end() {
        System.out.println(asked + " answers, " + wrong + " wrong");
        if (wrong != 0) {
            System.exit(1);
        }
    }
}
