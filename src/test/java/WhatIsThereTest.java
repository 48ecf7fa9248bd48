/** Promises 6 to 12: parrot, half, hears, votes, verdict, left, count. */
public final class WhatIsThereTest {
    public static void main(String[] args) {
        parrotTellsAll();
        parrotHearsTheLoudestFirstOne();
        halfTellsBoth();
        hearsTellsTheOnesThere();
        votesCountsWholeWords();
        verdictTakesTheSmallestNumber();
        leftCountsHalvesApart();
        countTellsAll();
        Due.end("WhatIsThereTest");
    }

    private static void parrotTellsAll() {
        ParrotJury jury = new ParrotJury();
        jury.come(6, 4);
        jury.come(2, 3);
        jury.come(3, 5);
        jury.come(8, 1);
        jury.whisper(0, 708, 7);
        jury.listen(0, 1);
        jury.listen(0, 2);
        jury.listen(1, 0);
        jury.listen(2, 0);
        jury.listen(3, 0);
        int[] due = {708, 7, 6, 4, 2, 3, 2};
        for (int what = 0; what < due.length; what++) {
            Due.same("parrot(0, " + what + ")", jury.parrot(0, what), due[what]);
        }
        int[] alone = {0, 0, 8, 1, 1, 0, 0};
        for (int what = 0; what < alone.length; what++) {
            Due.same("parrot(3, " + what + ")", jury.parrot(3, what), alone[what]);
        }
        Due.same("listeners of 1", jury.parrot(1, 5), 1);
        Due.same("listeners of 2", jury.parrot(2, 5), 1);
        jury.listen(3, 0);
        Due.same("listeners behind a drop", jury.parrot(0, 5), 2);
    }

    private static void parrotHearsTheLoudestFirstOne() {
        ParrotJury jury = Juries.of(5);
        Due.same("hears none", jury.parrot(0, 6), -1);
        jury.listen(0, 3);
        jury.listen(0, 1);
        jury.listen(0, 2);
        Due.same("of alike ones the first in its order", jury.parrot(0, 6), 3);
        jury.raise(2, 2);
        Due.same("the loudest", jury.parrot(0, 6), 2);
        jury.raise(1, 2);
        Due.same("of the loudest the first in its order", jury.parrot(0, 6), 1);
        jury.listen(0, 1);
        jury.listen(0, 1);
        Due.same("who comes again comes last", jury.parrot(0, 6), 2);
        jury.raise(0, 5);
        jury.raise(4, 5);
        Due.same("no other one is heard", jury.parrot(0, 6), 2);
        jury.raise(3, 5);
        Due.same("loud 5", jury.parrot(0, 6), 3);
    }

    private static void halfTellsBoth() {
        ParrotJury jury = Juries.of(3);
        jury.whisper(2, 1234, 9);
        Due.same("first half", jury.half(2, false, 0), 12);
        Due.same("last half", jury.half(2, true, 0), 34);
        jury.whisper(2, 9, 9);
        Due.same("first half with no syllable but 0", jury.half(2, false, 0), 0);
        Due.same("last half of 9", jury.half(2, true, 0), 9);
        jury.whisper(2, 1234, 9);
        jury.listen(1, 2);
        jury.listen(0, 1);
        jury.pass(1);
        int[] last = {34, 2, 1};
        int[] first = {0, -1, 0};
        for (int what = 0; what < last.length; what++) {
            Due.same("half(1, true, " + what + ")", jury.half(1, true, what), last[what]);
            Due.same("half(1, false, " + what + ")", jury.half(1, false, what), first[what]);
        }
    }

    private static void hearsTellsTheOnesThere() {
        ParrotJury jury = Juries.of(6);
        for (int other : new int[] {4, 2, 5, 3}) {
            jury.listen(0, other);
        }
        jury.listen(1, 0);
        Due.same("hears(0, 0)", jury.hears(0, 0), 4);
        Due.same("hears(0, 3)", jury.hears(0, 3), 3);
        Due.same("hears(1, 0)", jury.hears(1, 0), 0);
    }

    private static void votesCountsWholeWords() {
        ParrotJury jury = Juries.ofWords(1234, 1200, 34, 1234, 0);
        Due.same("votes(1234)", jury.votes(1234), 2);
        Due.same("votes(1200)", jury.votes(1200), 1);
        Due.same("votes(0)", jury.votes(0), 1);
        Due.same("votes(9999)", jury.votes(9999), 0);
        Due.same("votes without parrots", new ParrotJury().votes(0), 0);
    }

    private static void verdictTakesTheSmallestNumber() {
        Due.same("verdict without parrots", new ParrotJury().verdict(), -1);
        Due.same("verdict of one", Juries.ofWords(77).verdict(), 77);
        Due.same("the most", Juries.ofWords(5, 9, 9).verdict(), 9);
        Due.same("of several the smallest number", Juries.ofWords(9, 5, 5, 9, 1).verdict(), 9);
        Due.same("not the smallest word", Juries.ofWords(1, 8, 3, 3, 8).verdict(), 8);
        Due.same("all apart", Juries.ofWords(40, 30, 20).verdict(), 40);
    }

    private static void leftCountsHalvesApart() {
        ParrotJury jury = Juries.ofWords(1234, 1200, 3412, 34, 1212);
        Due.same("left(1234)", jury.left(1234), 5);
        Due.same("left(3412)", jury.left(3412), 3);
        Due.same("left(1212)", jury.left(1212), 5);
        Due.same("left(0)", jury.left(0), 2);
        Due.same("left(1299)", jury.left(1299), 3);
        Due.same("left(9934)", jury.left(9934), 2);
        Due.same("left(9999)", jury.left(9999), 0);
        Due.same("left without parrots", new ParrotJury().left(0), 0);
        Due.same("left of all", Juries.of(12).left(0), 24);
    }

    private static void countTellsAll() {
        ParrotJury jury = new ParrotJury();
        for (int i = 0; i < 4; i++) {
            jury.come(9, 1);
        }
        jury.whisper(1, 1100, 9);
        jury.whisper(2, 1100, 8);
        jury.listen(0, 1);
        jury.listen(3, 2);
        jury.pass(3);
        // 0 takes 11 in round 0, forgets its 1 sure there, and is 2 sure behind two rounds alike.
        // 3 takes 00 in each round, for its word stays 0: 1 sure. Round 0 leaves 1 and 2 with 8 and 7.
        int[] due = {3, 4, 2, 6, 18, 4};
        for (int what = 0; what < due.length; what++) {
            Due.same("count(" + what + ")", jury.count(what), due[what]);
        }
        Due.same("all apart", Juries.ofWords(1, 2, 3).count(2), 3);
        Due.same("apart and alike", Juries.ofWords(1, 2, 1, 2, 1).count(2), 2);
        Due.same("from the court", Juries.ofWords(1, 2, 1).count(3), 6);
    }
}
