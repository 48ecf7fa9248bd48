/** The edges that a round and promise 13 name; the sentence stands above each. */
public final class EdgesOfRoundsTest {
    public static void main(String[] args) {
        roundsAre1To200();
        passTellsWhatWasTaken();
        theRoundIs1Greater();
        withoutOthersNothingIsHeard();
        alikeIsAtMost9Sure();
        moreSureByOneKeeps();
        oneMoreSureThanNone();
        asSureTakes();
        takesAlsoWhatIsAlike();
        isOneSureThen();
        evenTakesFirstOddTakesLast();
        overOneMoreThanTheHeardOne();
        overAtMost99();
        overIsReadAhead();
        wordsAndSureAreReadAhead();
        oneLessSureBehindMemoryAndOne();
        round0Can();
        atLeast0Sure();
        allParrotsForget();
        forgettingIsBehindHearing();
        forgettingComesOnceARound();
        whoCameLaterForgetsByTheRound();
        theLoudestNowIsHeard();
        Due.end("EdgesOfRoundsTest");
    }

    /** 0 hears 1, in round 1, in which none of them forgets. */
    private static ParrotJury pair(int word, int sure, int heardWord, int heardSure) {
        ParrotJury jury = Juries.of(2);
        jury.pass(1);
        jury.listen(0, 1);
        jury.whisper(0, word, sure);
        jury.whisper(1, heardWord, heardSure);
        return jury;
    }

    // "Throws IllegalArgumentException if rounds is not 1 to 200"
    private static void roundsAre1To200() {
        int round = 0;
        ParrotJury jury = Juries.swappers();
        for (int good : new int[] {1, 2, 199, 200}) {
            Due.same("pass(" + good + ")", jury.pass(good), 2 * good);
            round += good;
            Due.same("round behind pass(" + good + ")", jury.count(0), round);
        }
        Refused.illegalBeyond(1, 200, Juries::ringLater, "pass", (x, bad) -> x.pass(bad));
        Refused.illegalBeyond(1, 200, ParrotJury::new, "pass without parrots", (x, bad) -> x.pass(bad));
    }

    // "Returns how often halves are taken in them.": in them, not in all; and count(5) in all
    private static void passTellsWhatWasTaken() {
        ParrotJury jury = pair(1111, 2, 2222, 1);
        Due.same("taken when it keeps", jury.pass(1), 0);
        Due.same("taken when it takes", jury.pass(1), 1);
        Due.same("taken in 5", jury.pass(5), 5);
        Due.same("taken in all", jury.count(5), 6);
        jury.listen(0, 1);
        Due.same("taken when none listens", jury.pass(200), 0);
        Due.same("taken in all still", jury.count(5), 6);
    }

    // "The round is 1 greater.", also without parrots
    private static void theRoundIs1Greater() {
        ParrotJury jury = new ParrotJury();
        Due.same("taken without parrots", jury.pass(1), 0);
        Due.same("round behind 1", jury.count(0), 1);
        jury.pass(200);
        Due.same("round behind 201", jury.count(0), 201);
        for (int i = 0; i < 500; i++) {
            jury.pass(200);
        }
        Due.same("round behind 100201", jury.count(0), 100201);
    }

    // "for each parrot that listens to others"
    private static void withoutOthersNothingIsHeard() {
        ParrotJury jury = pair(1111, 3, 2222, 9);
        jury.listen(0, 1);
        Due.same("taken when none listens", jury.pass(1), 0);
        Due.same("its word", jury.parrot(0, 0), 1111);
        Due.same("it is as sure", jury.parrot(0, 1), 3);
        Due.same("the other one is as sure", jury.parrot(1, 1), 9);
        jury.listen(0, 1);
        Due.same("taken when it listens again", jury.pass(1), 1);
    }

    // "If its word is that of the heard one, it is 1 more sure (at most 9)."
    private static void alikeIsAtMost9Sure() {
        int[] sure = {0, 1, 7, 8, 9};
        int[] due = {1, 2, 8, 9, 9};
        for (int heardSure = 0; heardSure <= 9; heardSure += 3) {
            for (int i = 0; i < sure.length; i++) {
                ParrotJury jury = pair(4321, sure[i], 4321, heardSure);
                Due.same("taken when alike", jury.pass(1), 0);
                Due.same("alike and sure " + sure[i], jury.parrot(0, 1), due[i]);
                Due.same("the heard one", jury.parrot(1, 1), heardSure);
                Due.same("from the court still", jury.half(0, false, 1), -1);
            }
        }
        ParrotJury half = pair(4321, 4, 4320, 4);
        Due.same("all but a syllable alike", half.pass(1), 1);
    }

    // "Otherwise, if it is more sure than the heard one, it keeps its word, and is 1 less sure."
    private static void moreSureByOneKeeps() {
        for (int heardSure = 0; heardSure <= 8; heardSure++) {
            ParrotJury jury = pair(1111, heardSure + 1, 2222, heardSure);
            Due.same("taken when 1 more sure than " + heardSure, jury.pass(1), 0);
            Due.same("its word", jury.parrot(0, 0), 1111);
            Due.same("1 less sure", jury.parrot(0, 1), heardSure);
            Due.same("from the court still", jury.half(0, false, 1), -1);
            Due.same("the heard one", jury.parrot(1, 1), heardSure);
        }
    }

    // the same at its ends: 9 against 0, 1 against 0
    private static void oneMoreSureThanNone() {
        ParrotJury most = pair(1111, 9, 2222, 0);
        most.pass(1);
        Due.same("9 against 0", most.parrot(0, 1), 8);
        ParrotJury least = pair(1111, 1, 2222, 0);
        Due.same("1 against 0", least.pass(1), 0);
        Due.same("it is 0 sure", least.parrot(0, 1), 0);
        Due.same("then it takes", least.pass(1), 1);
    }

    // "Otherwise it takes from the heard one the half that it takes": as sure, and 1 less sure
    private static void asSureTakes() {
        for (int sure = 0; sure <= 9; sure++) {
            ParrotJury even = pair(1111, sure, 2222, sure);
            Due.same("taken when as sure, " + sure, even.pass(1), 1);
            Due.same("its word", even.parrot(0, 0), 2211);
            Due.same("from 1", even.half(0, false, 1), 1);
            Due.same("the heard one", even.parrot(1, 1), sure);
            ParrotJury less = pair(1111, Math.max(sure - 1, 0), 2222, sure);
            Due.same("taken when less sure than " + sure, less.pass(1), 1);
            Due.same("its word then", less.parrot(0, 0), 2211);
        }
    }

    // "in the place of its own one (also if both are alike)": it counts, has a way, and makes 1 sure
    private static void takesAlsoWhatIsAlike() {
        ParrotJury jury = pair(7711, 6, 7722, 6);
        Due.same("taken though alike", jury.pass(1), 1);
        Due.same("its word is the same", jury.parrot(0, 0), 7711);
        Due.same("from 1 now", jury.half(0, false, 1), 1);
        Due.same("over 1 now", jury.half(0, false, 2), 1);
        Due.same("1 sure now", jury.parrot(0, 1), 1);
        Due.same("taken in all", jury.count(5), 1);
        Due.same("from the court", jury.count(3), 3);
    }

    // "and it is 1 sure", whatever it was
    private static void isOneSureThen() {
        for (int sure = 0; sure <= 9; sure++) {
            ParrotJury jury = pair(1111, sure, 2222, 9);
            jury.pass(1);
            Due.same("sure behind taking, " + sure, jury.parrot(0, 1), 1);
            Due.same("the heard one is as sure", jury.parrot(1, 1), 9);
        }
    }

    // "One with an even number takes first halves, one with an odd number last halves."
    private static void evenTakesFirstOddTakesLast() {
        for (int taker = 0; taker < 12; taker++) {
            int heard = (taker + 1) % 12;
            ParrotJury jury = Juries.of(12);
            jury.listen(taker, heard);
            jury.whisper(heard, 4567, 9);
            jury.pass(1);
            boolean isOdd = taker % 2 == 1;
            Due.same("word of " + taker, jury.parrot(taker, 0), isOdd ? 67 : 4500);
            Due.same("where its first half is from", jury.half(taker, false, 1), isOdd ? -1 : heard);
            Due.same("where its last half is from", jury.half(taker, true, 1), isOdd ? heard : -1);
            Due.same("over how many its first half", jury.half(taker, false, 2), isOdd ? 0 : 1);
            Due.same("over how many its last half", jury.half(taker, true, 2), isOdd ? 1 : 0);
        }
    }

    // "over as many parrots as that has it from, and 1 more": the heard one's way of the same half, not the taker's own
    private static void overOneMoreThanTheHeardOne() {
        ParrotJury jury = Juries.of(12);
        for (int i = 0; i < 10; i += 2) {
            jury.listen(i, i + 2);
        }
        jury.whisper(10, 5500, 9);
        jury.pass(60);
        for (int i = 0; i <= 10; i += 2) {
            Due.same("over how many, " + i, jury.half(i, false, 2), (10 - i) / 2);
            Due.same("the last half over none, " + i, jury.half(i, true, 2), 0);
        }
        jury.listen(1, 0);
        jury.pass(1);
        Due.same("1 takes the last half, which is the court's", jury.half(1, true, 2), 1);
        jury.whisper(0, 6677, 9);
        jury.whisper(2, 8899, 9);
        jury.pass(1);
        Due.same("from 2, to which the court whispered", jury.half(0, false, 2), 1);
    }

    // "(at most 99)": 98, 99, and no more
    private static void overAtMost99() {
        ParrotJury jury = Juries.swappers();
        jury.pass(97);
        int[] due = {97, 98, 99, 99, 99};
        for (int i = 0; i < due.length; i++) {
            Due.same("over how many behind " + (97 + i), jury.half(0, false, 2), due[i]);
            Due.same("over how many, 2, behind " + (97 + i), jury.half(2, false, 2), due[i]);
            jury.pass(1);
        }
        Due.same("taken in all the same", jury.count(5), 204);
        Due.same("from whom", jury.half(0, false, 1), 2);
        ParrotJury odd = Juries.of(4);
        odd.listen(1, 3);
        odd.listen(3, 1);
        odd.whisper(1, 11, 0);
        odd.pass(98);
        Due.same("a last half behind 98", odd.half(1, true, 2), 98);
        odd.pass(1);
        Due.same("a last half behind 99", odd.half(1, true, 2), 99);
        odd.pass(200);
        Due.same("a last half behind 299", odd.half(1, true, 2), 99);
    }

    // "all by what was ahead of the round": ways
    private static void overIsReadAhead() {
        for (int step = -2; step <= 2; step += 4) {
            ParrotJury jury = Juries.of(5);
            jury.pass(1);
            jury.listen(2 + step, 2);
            jury.listen(2, 2 - step);
            jury.whisper(2 + step, 1100, 0);
            jury.whisper(2, 2200, 0);
            jury.whisper(2 - step, 3300, 9);
            Due.same("both take", jury.pass(1), 2);
            Due.same("what 2 had ahead, over 1", jury.half(2 + step, false, 2), 1);
            Due.same("what 2 said ahead", jury.half(2 + step, false, 0), 22);
            Due.same("what 2 takes", jury.half(2, false, 0), 33);
        }
    }

    // the same: words, and how sure one is
    private static void wordsAndSureAreReadAhead() {
        for (int step = -2; step <= 2; step += 4) {
            ParrotJury jury = Juries.of(5);
            jury.pass(1);
            jury.listen(2 + step, 2);
            jury.listen(2, 2 - step);
            jury.whisper(2 + step, 2200, 5);
            jury.whisper(2, 2200, 5);
            jury.whisper(2 - step, 3300, 9);
            Due.same("2 alone takes", jury.pass(1), 1);
            Due.same("it heard what 2 said ahead", jury.parrot(2 + step, 1), 6);
            jury.whisper(2 + step, 1100, 5);
            jury.whisper(2, 2200, 5);
            Due.same("both take", jury.pass(1), 2);
            Due.same("2 was as sure ahead, though it is 1 sure now", jury.parrot(2 + step, 0), 2200);
        }
    }

    // "in a round that can be divided by its memory + 1 .., a parrot is 1 less sure": just there, not beside it
    private static void oneLessSureBehindMemoryAndOne() {
        for (int memory = 1; memory <= 9; memory++) {
            ParrotJury jury = Juries.ofMemory(1, memory);
            jury.pass(1);
            int last = 4 * (memory + 1) + 1;
            for (int round = 1; round <= last; round++) {
                jury.whisper(0, 7, 5);
                jury.pass(1);
                int due = round % (memory + 1) == 0 ? 4 : 5;
                Due.same("memory " + memory + ", behind round " + round, jury.parrot(0, 1), due);
            }
        }
    }

    // "(0 can)"
    private static void round0Can() {
        for (int memory = 1; memory <= 9; memory++) {
            ParrotJury jury = Juries.ofMemory(1, memory);
            jury.whisper(0, 7, 5);
            jury.pass(1);
            Due.same("behind round 0, memory " + memory, jury.parrot(0, 1), 4);
            jury.pass(1);
            Due.same("behind round 1, memory " + memory, jury.parrot(0, 1), 4);
            Due.same("its word", jury.parrot(0, 0), 7);
        }
    }

    // "1 less sure (at least 0)"
    private static void atLeast0Sure() {
        int[] due = {0, 0, 1, 2};
        for (int sure = 0; sure < due.length; sure++) {
            ParrotJury jury = Juries.of(1);
            jury.whisper(0, 7, sure);
            jury.pass(1);
            Due.same("forgetting from " + sure, jury.parrot(0, 1), due[sure]);
            jury.pass(200);
            Due.same("forgetting from " + sure + " for long", jury.parrot(0, 1), 0);
        }
    }

    // "all parrots": whether they listen or not, the first one and the last one, each by its own memory
    private static void allParrotsForget() {
        ParrotJury jury = new ParrotJury();
        for (int i = 0; i < 12; i++) {
            jury.come(i % 9 + 1, 1);
            jury.whisper(i, 0, 9);
        }
        for (int i = 0; i < 6; i++) {
            jury.listen(i, i + 1);
        }
        int[][] due = {
            {8, 8, 8, 8, 8, 8, 8, 8, 8, 8, 8, 8},
            {9, 9, 9, 9, 9, 9, 8, 8, 8, 8, 8, 8},
            {8, 9, 9, 9, 9, 9, 8, 8, 8, 7, 8, 8},
            {9, 8, 9, 9, 9, 9, 8, 8, 8, 7, 7, 8},
        };
        for (int round = 0; round < due.length; round++) {
            jury.pass(1);
            for (int i = 0; i < 12; i++) {
                Due.same("behind round " + round + ", " + i, jury.parrot(i, 1), due[round][i]);
            }
        }
    }

    // "Behind that": what was heard comes first, also at its ends
    private static void forgettingIsBehindHearing() {
        ParrotJury alike = Juries.of(4);
        alike.listen(0, 1);
        alike.listen(2, 3);
        alike.whisper(2, 0, 9);
        alike.pass(1);
        Due.same("0 sure: 1 more, 1 less", alike.parrot(0, 1), 0);
        Due.same("9 sure: at most 9, 1 less", alike.parrot(2, 1), 8);
        ParrotJury keeps = Juries.ofWords(1111, 2222);
        keeps.listen(0, 1);
        keeps.whisper(0, 1111, 1);
        Due.same("1 sure against 0", keeps.pass(1), 0);
        Due.same("1 less, and at least 0", keeps.parrot(0, 1), 0);
        ParrotJury surer = Juries.ofWords(1111, 2222);
        surer.listen(0, 1);
        surer.whisper(0, 1111, 6);
        surer.whisper(1, 2222, 5);
        Due.same("6 sure against 5, which forgets behind it", surer.pass(1), 0);
        Due.same("2 less in all", surer.parrot(0, 1), 4);
        ParrotJury takes = Juries.ofWords(1111, 2222);
        takes.listen(0, 1);
        takes.pass(1);
        Due.same("it is 1 sure, and 1 less", takes.parrot(0, 1), 0);
    }

    // "in a round": rounds that go by at once do the same as one by one
    private static void forgettingComesOnceARound() {
        for (int many : new int[] {1, 2, 19, 20, 21, 199, 200}) {
            ParrotJury once = Juries.ring();
            ParrotJury often = Juries.ring();
            int taken = 0;
            for (int i = 0; i < many; i++) {
                taken += often.pass(1);
            }
            Due.same("taken in " + many, once.pass(many), taken);
            Due.same("digest behind " + many, once.digest(), often.digest());
        }
    }

    // the round counts from the object's making, not from a parrot's coming
    private static void whoCameLaterForgetsByTheRound() {
        ParrotJury jury = new ParrotJury();
        jury.pass(5);
        jury.come(2, 1);
        jury.whisper(0, 7, 5);
        int[] due = {5, 4, 4, 4, 3};
        for (int i = 0; i < due.length; i++) {
            jury.pass(1);
            Due.same("behind round " + (5 + i), jury.parrot(0, 1), due[i]);
        }
    }

    // "it hears the loudest one .., of several the first one in its order": by the loudness of now
    private static void theLoudestNowIsHeard() {
        ParrotJury jury = Juries.of(4);
        for (int i = 1; i < 4; i++) {
            jury.whisper(i, 1111 * i, 9);
        }
        jury.listen(0, 3);
        jury.listen(0, 1);
        jury.listen(0, 2);
        jury.pass(1);
        Due.same("the first one in its order", jury.half(0, false, 1), 3);
        jury.raise(2, 2);
        jury.pass(1);
        Due.same("the loudest one", jury.half(0, false, 1), 2);
        jury.raise(1, 2);
        jury.pass(1);
        Due.same("of the two loudest the first one", jury.half(0, false, 1), 1);
        jury.raise(1, 1);
        jury.raise(2, 1);
        jury.pass(1);
        Due.same("the first one again", jury.half(0, false, 1), 3);
        Due.same("taken in all", jury.count(5), 4);
    }
}
