/** Counts answers that are not as due; a test ends with exit code 1 if there was one. */
final class Check {
    private static final int MOST_SHOWN = 40;
    private static int asked = 0;
    private static int wrong = 0;

    private Check() {
    }

    static void is(String what, long got, long due) {
        asked++;
        if (got != due) {
            tellWrong(what + " answered " + got + ", due is " + due);
        }
    }

    static void is(String what, boolean got, boolean due) {
        asked++;
        if (got != due) {
            tellWrong(what + " answered " + got + ", due is " + due);
        }
    }

    static void is(String what, String got, String due) {
        asked++;
        if (!got.equals(due)) {
            tellWrong(what + " answered " + got + ", due is " + due);
        }
    }

    private static void tellWrong(String line) {
        wrong++;
        if (wrong <= MOST_SHOWN) {
            System.out.println(line);
        }
    }

    static void end() {
        System.out.println(asked + " answers asked, " + wrong + " not as due");
        if (wrong != 0 || asked == 0) {
            System.exit(1);
        }
    }
}
