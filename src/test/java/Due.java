/** Compares answers with those that are due; every test ends with end(). */
final class Due {
    private static int checked = 0;
    private static int wrong = 0;

    private Due() {
    }

    static void same(String call, long got, long due) {
        checked++;
        if (got != due) {
            say(call + " answered " + got + ", due is " + due);
        }
    }

    static void sameDouble(String call, double got, double due) {
        checked++;
        if (got != due) {
            say(call + " answered " + got + ", due is " + due);
        }
    }

    static void holds(String what, boolean holds) {
        checked++;
        if (!holds) {
            say(what);
        }
    }

    static void end(String test) {
        System.out.println(test + ": " + checked + " checked, " + wrong + " wrong");
        if (wrong != 0 || checked == 0) {
            System.exit(1);
        }
    }

    private static void say(String what) {
        wrong++;
        if (wrong <= 50) {
            System.out.println(what);
        }
    }
}
