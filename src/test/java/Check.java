/** Counts the answers that are not as due; every test ends with end(). */
final class Check {
    private static int wrong = 0;
    private static int asked = 0;

    private Check() {
    }

    static void is(String call, long got, long due) {
        asked++;
        if (got != due) {
            wrong++;
            System.out.println(call + " answered " + got + ", due is " + due);
        }
    }

    static void is(String call, boolean got, boolean due) {
        is(call, got ? 1 : 0, due ? 1 : 0);
    }

    static void same(String call, String got, String due) {
        asked++;
        if (!got.equals(due)) {
            wrong++;
            System.out.println(call + " answered " + got + ", due is " + due);
        }
    }

    /** A pipe's plugs as volume@warmth. */
    static String row(HotLoops x, int pipe) {
        StringBuilder text = new StringBuilder();
        for (int k = 0; x.plug(pipe, k, 0) != HotLoops.NONE; k++) {
            text.append(k == 0 ? "" : " ").append(x.plug(pipe, k, 0));
            text.append('@').append(x.plug(pipe, k, 1));
        }
        return text.toString();
    }

    static void end() {
        System.out.println(asked + " answers, " + wrong + " wrong");
        if (wrong != 0) {
            System.exit(1);
        }
    }
}
