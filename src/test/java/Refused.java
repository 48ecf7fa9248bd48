/**
 * Calls that are refused. Just the due exception comes, none of its subclasses; and nothing is changed: a jury on which
 * the call was made tells, then and later, what its twin tells, on which it was not made.
 */
final class Refused {
    /** Makes the same jury each time. */
    interface Made {
        ParrotJury make();
    }

    interface Call {
        void on(ParrotJury jury);
    }

    /** A call of one number, to be refused for each number that is too small or too large. */
    interface CallWith {
        void on(ParrotJury jury, int number);
    }

    private Refused() {
    }

    static void outside(Made made, String told, Call call) {
        thrown(IndexOutOfBoundsException.class, made, told, call);
    }

    static void illegal(Made made, String told, Call call) {
        thrown(IllegalArgumentException.class, made, told, call);
    }

    static void notNow(Made made, String told, Call call) {
        thrown(IllegalStateException.class, made, told, call);
    }

    /** Refused one below the least number, one above the most, and far off. */
    static void outsideBeyond(int least, int most, Made made, String told, CallWith call) {
        for (int bad : beyond(least, most)) {
            outside(made, told + " with " + bad, jury -> call.on(jury, bad));
        }
    }

    static void illegalBeyond(int least, int most, Made made, String told, CallWith call) {
        for (int bad : beyond(least, most)) {
            illegal(made, told + " with " + bad, jury -> call.on(jury, bad));
        }
    }

    private static int[] beyond(int least, int most) {
        return new int[] {least - 1, most + 1, least - 2, most + 2, Integer.MIN_VALUE, Integer.MAX_VALUE};
    }

    private static void thrown(Class<? extends RuntimeException> due, Made made, String told, Call call) {
        ParrotJury jury = made.make();
        ParrotJury twin = made.make();
        Class<?> got = whatIsThrown(jury, call);
        Due.holds(told + " threw " + (got == null ? "nothing" : got.getName()) + ", due is " + due.getName(),
            got == due);
        Due.holds(told + " changed what is told", lookAt(jury).equals(lookAt(twin)));
        Due.same("pass(3) behind " + told, jury.pass(3), twin.pass(3));
        Due.same("digest behind " + told, jury.digest(), twin.digest());
    }

    private static Class<?> whatIsThrown(ParrotJury jury, Call call) {
        try {
            call.on(jury);
            return null;
        } catch (RuntimeException e) {
            return e.getClass();
        }
    }

    /** All that a jury tells, with some 300 calls. */
    private static String lookAt(ParrotJury jury) {
        StringBuilder seen = new StringBuilder();
        for (int what = 0; what < 6; what++) {
            seen.append(jury.count(what)).append(' ');
        }
        seen.append(jury.verdict()).append(' ').append(jury.agrees()).append(' ').append(jury.mean()).append(' ');
        seen.append(jury.votes(0)).append(' ').append(jury.left(0)).append(' ').append(jury.advise(1234, 2));
        seen.append(' ').append(jury.digest());
        int size = jury.count(1);
        for (int parrot = 0; parrot < size; parrot++) {
            lookAtParrot(jury, parrot, seen);
        }
        return seen.toString();
    }

    private static void lookAtParrot(ParrotJury jury, int parrot, StringBuilder seen) {
        seen.append("; ").append(jury.source(parrot)).append(' ').append(jury.foresee(4, parrot));
        for (int what = 0; what < 7; what++) {
            seen.append(' ').append(jury.parrot(parrot, what));
        }
        for (int what = 0; what < 3; what++) {
            seen.append(' ').append(jury.half(parrot, false, what)).append(' ').append(jury.half(parrot, true, what));
        }
        for (int place = 0; place < jury.parrot(parrot, 4); place++) {
            seen.append(' ').append(jury.hears(parrot, place));
        }
    }
}
