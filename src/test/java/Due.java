/** Compares answers with those that are due; every test ends with end(). */
final class Due {
    interface Call {
        void make();
    }

    private static int checked = 0;
    private static int wrong = 0;

    private Due() {
    }

    static void same(String call, long got, long due) {
        checked++;
        if (got != due) {
            say(call + " answered " + got + ", due is " + due);
        }
    }

    static void sameDouble(String call, double got, double due) {
        checked++;
        if (got != due) {
            say(call + " answered " + got + ", due is " + due);
        }
    }

    static void holds(String what, boolean holds) {
        checked++;
        if (!holds) {
            say(what);
        }
    }

    /** The call throws just this exception, none of its subclasses, and changes nothing. */
    static void thrown(ParrotJury jury, String call, Class<? extends RuntimeException> due, Call made) {
        long before = jury.digest();
        Class<?> got = whatIsThrown(made);
        checked++;
        if (got != due) {
            say(call + " threw " + (got == null ? "nothing" : got.getName()) + ", due is " + due.getName());
        }
        same("digest() behind " + call, jury.digest(), before);
    }

    static void outside(ParrotJury jury, String call, Call made) {
        thrown(jury, call, IndexOutOfBoundsException.class, made);
    }

    static void illegal(ParrotJury jury, String call, Call made) {
        thrown(jury, call, IllegalArgumentException.class, made);
    }

    static void notNow(ParrotJury jury, String call, Call made) {
        thrown(jury, call, IllegalStateException.class, made);
    }

    static void end(String test) {
        System.out.println(test + ": " + checked + " checked, " + wrong + " wrong");
        if (wrong != 0 || checked == 0) {
            System.exit(1);
        }
    }

    private static Class<?> whatIsThrown(Call made) {
        try {
            made.make();
            return null;
        } catch (RuntimeException e) {
            return e.getClass();
        }
    }

    private static void say(String what) {
        wrong++;
        if (wrong <= 50) {
            System.out.println(what);
        }
    }
}
