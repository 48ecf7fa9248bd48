/** All promises: long runs of calls, each with the same arguments each time, answered as ModelJury answers. */
public final class ModelTest {
    private static final int RUNS = 1500;
    private static final int CALLS = 255;
    private static final String[] NAMES = {"come", "listen", "raise", "whisper", "parrot", "half", "hears", "votes",
        "verdict", "left", "count", "pass", "agrees", "foresee", "advise", "source", "mean"};
    // Calls that change something, and those that look ahead, come oftener than the others.
    private static final int[] KINDS = {0, 1, 1, 1, 2, 3, 3, 4, 5, 6, 7, 8, 9, 10, 11, 11, 12, 13, 14, 15, 16};

    private static long state = 1;

    public static void main(String[] args) {
        for (int run = 0; run < RUNS; run++) {
            oneRun(run);
        }
        Due.end("ModelTest");
    }

    /** A number from 0 to below; the row of numbers is the same each time. */
    private static int next(int below) {
        state = state * 6364136223846793005L + 1442695040888963407L;
        return (int) ((state >>> 33) % below);
    }

    /** Mostly a number from least to most, now and then one beside them or far off. */
    private static int number(int least, int most) {
        int kind = next(40);
        if (kind == 0) {
            return least - 1;
        }
        if (kind == 1) {
            return most + 1;
        }
        if (kind == 2) {
            return next(2) == 0 ? Integer.MIN_VALUE : Integer.MAX_VALUE;
        }
        return least + next(most - least + 1);
    }

    /** Few words in a run, so that parrots say the same ones. */
    private static int word(int run) {
        return next(8) == 0 ? number(0, 9999) : (1 + next(2 + run % 3)) * 1100 + next(2 + run % 2) * 7;
    }

    private static void oneRun(int run) {
        ParrotJury jury = new ParrotJury();
        ModelJury model = new ModelJury();
        int birds = next(13);
        for (int call = 0; call < CALLS; call++) {
            int kind = call < birds ? 0 : KINDS[next(KINDS.length)];
            if (kind == 0 && call >= birds && next(4) != 0) {
                kind = 1;
            }
            int size = Math.max(model.count(1), 1);
            int[] given = argumentsOf(kind, size, run);
            String told = "run " + run + " call " + call + ": " + NAMES[kind] + "(" + given[0] + ", " + given[1] + ", "
                + given[2] + ")";
            String got = answer(jury, null, kind, given);
            String due = answer(null, model, kind, given);
            Due.holds(told + " answered " + got + ", due is " + due, got.equals(due));
            Due.same("digest behind " + told, jury.digest(), model.digest());
        }
    }

    private static int[] argumentsOf(int kind, int size, int run) {
        int parrot = number(0, size - 1);
        switch (kind) {
            case 0:
                return new int[] {number(1, 9), number(1, 5), 0};
            case 1:
                return new int[] {parrot, number(0, size - 1), 0};
            case 2:
                return new int[] {parrot, number(1, 5), 0};
            case 3:
                return new int[] {parrot, word(run), number(0, 9)};
            case 4:
                return new int[] {parrot, number(0, 6), 0};
            case 5:
                return new int[] {parrot, next(2), number(0, 2)};
            case 6:
                return new int[] {parrot, number(0, 3), 0};
            case 7:
            case 9:
                return new int[] {word(run), 0, 0};
            case 10:
                return new int[] {number(0, 5), 0, 0};
            case 11:
                return new int[] {next(4) == 0 ? number(1, 200) : 1 + next(6), 0, 0};
            case 13:
                return new int[] {next(2) == 0 ? number(1, 200) : 1 + next(20), parrot, 0};
            case 14:
                return new int[] {word(run), next(2) == 0 ? number(1, 40) : 1 + next(5), 0};
            default:
                return new int[] {parrot, 0, 0};
        }
    }

    /** What the one that is not null answers, or the exception that it throws. */
    private static String answer(ParrotJury jury, ModelJury model, int kind, int[] given) {
        try {
            if (kind == 16) {
                return String.valueOf(jury != null ? jury.mean() : model.mean());
            }
            return String.valueOf(jury != null ? ofJury(jury, kind, given) : ofModel(model, kind, given));
        } catch (RuntimeException e) {
            return e.getClass().getName();
        }
    }

    private static int ofJury(ParrotJury x, int kind, int[] g) {
        switch (kind) {
            case 0: return x.come(g[0], g[1]);
            case 1: return x.listen(g[0], g[1]);
            case 2: return x.raise(g[0], g[1]);
            case 3: return x.whisper(g[0], g[1], g[2]);
            case 4: return x.parrot(g[0], g[1]);
            case 5: return x.half(g[0], g[1] == 1, g[2]);
            case 6: return x.hears(g[0], g[1]);
            case 7: return x.votes(g[0]);
            case 8: return x.verdict();
            case 9: return x.left(g[0]);
            case 10: return x.count(g[0]);
            case 11: return x.pass(g[0]);
            case 12: return x.agrees();
            case 13: return x.foresee(g[0], g[1]);
            case 14: return x.advise(g[0], g[1]);
            default: return x.source(g[0]);
        }
    }

    private static int ofModel(ModelJury x, int kind, int[] g) {
        switch (kind) {
            case 0: return x.come(g[0], g[1]);
            case 1: return x.listen(g[0], g[1]);
            case 2: return x.raise(g[0], g[1]);
            case 3: return x.whisper(g[0], g[1], g[2]);
            case 4: return x.parrot(g[0], g[1]);
            case 5: return x.half(g[0], g[1] == 1, g[2]);
            case 6: return x.hears(g[0], g[1]);
            case 7: return x.votes(g[0]);
            case 8: return x.verdict();
            case 9: return x.left(g[0]);
            case 10: return x.count(g[0]);
            case 11: return x.pass(g[0]);
            case 12: return x.agrees();
            case 13: return x.foresee(g[0], g[1]);
            case 14: return x.advise(g[0], g[1]);
            default: return x.source(g[0]);
        }
    }
}
