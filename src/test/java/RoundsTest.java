/** Promise 13: pass, and how a round goes. */
public final class RoundsTest {
    public static void main(String[] args) {
        alikeGrowsSure();
        surerKeepsAndWavers();
        lessSureTakesAndIsOneSure();
        allGoByWhatWasAhead();
        sureIsAlsoReadAhead();
        aWayGrowsByOne();
        forgettingGoesByMemory();
        theLoudestIsHeard();
        whoListensToNoneKeeps();
        roundsAreCounted();
        Due.end("RoundsTest");
    }

    private static void alikeGrowsSure() {
        ParrotJury jury = Juries.of(2);
        jury.listen(0, 1);
        jury.whisper(0, 0, 3);
        int[] rounds = {1, 1, 4, 1, 1, 2, 1, 1};
        int[] sure = {3, 4, 8, 9, 9, 9, 8, 9};
        for (int i = 0; i < rounds.length; i++) {
            Due.same("taken when alike " + i, jury.pass(rounds[i]), 0);
            Due.same("sure when alike " + i, jury.parrot(0, 1), sure[i]);
        }
        Due.same("from the court still", jury.half(0, false, 1), -1);
    }

    private static void surerKeepsAndWavers() {
        ParrotJury jury = Juries.of(2);
        jury.listen(0, 1);
        jury.whisper(0, 1111, 5);
        jury.whisper(1, 2222, 3);
        Due.same("taken in round 0", jury.pass(1), 0);
        Due.same("keeps its word", jury.parrot(0, 0), 1111);
        Due.same("wavers and forgets", jury.parrot(0, 1), 3);
        Due.same("the heard one forgets alone", jury.parrot(1, 1), 2);
        Due.same("taken in round 1", jury.pass(1), 0);
        Due.same("keeps its word again", jury.parrot(0, 0), 1111);
        Due.same("wavers", jury.parrot(0, 1), 2);
        Due.same("taken in round 2", jury.pass(1), 1);
        Due.same("takes", jury.parrot(0, 0), 2211);
    }

    private static void lessSureTakesAndIsOneSure() {
        ParrotJury jury = Juries.of(2);
        jury.pass(1);
        jury.listen(1, 0);
        jury.whisper(0, 1234, 9);
        jury.whisper(1, 5678, 8);
        Due.same("taken", jury.pass(1), 1);
        Due.same("its word", jury.parrot(1, 0), 5634);
        Due.same("1 sure", jury.parrot(1, 1), 1);
        Due.same("the heard one stays sure", jury.parrot(0, 1), 9);
        jury.pass(9);
        Due.same("forgotten in round 10", jury.parrot(0, 1), 8);
        Due.same("taken in rounds 2 to 10", jury.count(5), 10);
        Due.same("1 sure less 1", jury.parrot(1, 1), 0);
    }

    private static void allGoByWhatWasAhead() {
        ParrotJury up = Juries.of(5);
        up.listen(4, 2);
        up.listen(2, 0);
        up.whisper(0, 5500, 9);
        Due.same("taken upwards", up.pass(1), 1);
        Due.same("2 takes", up.parrot(2, 0), 5500);
        Due.same("4 heard what 2 said ahead", up.parrot(4, 0), 0);
        ParrotJury down = Juries.of(5);
        down.listen(0, 2);
        down.listen(2, 4);
        down.whisper(4, 5500, 9);
        Due.same("taken downwards", down.pass(1), 1);
        Due.same("0 heard what 2 said ahead", down.parrot(0, 0), 0);
    }

    private static void sureIsAlsoReadAhead() {
        ParrotJury jury = Juries.of(4);
        jury.pass(1);
        jury.listen(2, 0);
        jury.listen(0, 1);
        jury.whisper(0, 1000, 5);
        jury.whisper(1, 2000, 5);
        jury.whisper(2, 3000, 4);
        Due.same("both take", jury.pass(1), 2);
        Due.same("0 takes from 1", jury.parrot(0, 0), 2000);
        Due.same("2 takes what 0 said ahead", jury.parrot(2, 0), 1000);
    }

    private static void aWayGrowsByOne() {
        ParrotJury jury = Juries.of(7);
        jury.listen(0, 2);
        jury.listen(2, 4);
        jury.listen(4, 6);
        jury.whisper(6, 5500, 9);
        Due.same("taken", jury.pass(3), 3);
        int[] from = {2, 4, 6, -1};
        int[] over = {3, 2, 1, 0};
        for (int i = 0; i < from.length; i++) {
            Due.same("from whom " + 2 * i, jury.half(2 * i, false, 1), from[i]);
            Due.same("over how many " + 2 * i, jury.half(2 * i, false, 2), over[i]);
            Due.same("the last half over none " + 2 * i, jury.half(2 * i, true, 2), 0);
        }
        Due.same("from the court", jury.count(3), 11);
    }

    private static void forgettingGoesByMemory() {
        for (int memory = 1; memory <= 9; memory++) {
            ParrotJury jury = Juries.ofMemory(1, memory);
            jury.whisper(0, 1, 9);
            int due = 9;
            for (int round = 0; round < 120; round++) {
                jury.pass(1);
                if (round % (memory + 1) == 0 && due > 0) {
                    due--;
                }
                Due.same("memory " + memory + ", sure behind round " + round, jury.parrot(0, 1), due);
            }
            Due.same("its word behind 120 rounds", jury.parrot(0, 0), 1);
        }
    }

    private static void theLoudestIsHeard() {
        ParrotJury jury = Juries.of(5);
        jury.listen(0, 1);
        jury.listen(0, 2);
        jury.listen(0, 3);
        jury.whisper(1, 1100, 9);
        jury.whisper(2, 2200, 9);
        jury.whisper(3, 3300, 9);
        jury.pass(1);
        Due.same("the first one of alike loud ones", jury.parrot(0, 0), 1100);
        jury.raise(3, 2);
        jury.pass(2);
        Due.same("the loudest", jury.parrot(0, 0), 3300);
        Due.same("from it", jury.half(0, false, 1), 3);
        jury.listen(0, 3);
        jury.raise(2, 2);
        jury.pass(2);
        Due.same("the loudest of the others", jury.parrot(0, 0), 2200);
    }

    private static void whoListensToNoneKeeps() {
        ParrotJury jury = Juries.of(3);
        jury.listen(0, 1);
        jury.listen(0, 1);
        jury.whisper(0, 4444, 2);
        jury.whisper(1, 5555, 9);
        Due.same("taken", jury.pass(9), 0);
        Due.same("its word", jury.parrot(0, 0), 4444);
        Due.same("its being sure", jury.parrot(0, 1), 1);
    }

    private static void roundsAreCounted() {
        ParrotJury jury = new ParrotJury();
        Due.same("pass(200) without parrots", jury.pass(200), 0);
        Due.same("the round", jury.count(0), 200);
        jury.pass(1);
        Due.same("the round behind one more", jury.count(0), 201);
        // 201 % 3 is 0: who comes now forgets at once.
        jury.come(2, 1);
        jury.whisper(0, 7, 5);
        jury.pass(1);
        Due.same("forgotten in round 201", jury.parrot(0, 1), 4);
        jury.pass(2);
        Due.same("kept in rounds 202 and 203", jury.parrot(0, 1), 4);
    }
}
