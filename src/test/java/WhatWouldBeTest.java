/** Promises 14 to 19: agrees, foresee, advise, source, mean, digest. */
public final class WhatWouldBeTest {
    public static void main(String[] args) {
        agreesLater();
        agreesByHalves();
        foreseeTellsWords();
        adviseFindsTheBest();
        adviseGoesByRounds();
        sourceFollowsAll();
        meanDivides();
        digestTellsStatesApart();
        nothingIsChanged();
        Due.end("WhatWouldBeTest");
    }

    /** 0 hears 1, is surer at first, and takes its first half in the third round. */
    private static ParrotJury waverers() {
        ParrotJury jury = Juries.of(2);
        jury.listen(0, 1);
        jury.whisper(0, 1122, 5);
        jury.whisper(1, 2222, 3);
        return jury;
    }

    private static void agreesLater() {
        ParrotJury jury = waverers();
        for (int rounds = 3; rounds >= 0; rounds--) {
            Due.same("agrees with " + rounds + " rounds to go", jury.agrees(), rounds);
            jury.pass(1);
        }
        Due.same("agrees still", jury.agrees(), 0);
    }

    private static void agreesByHalves() {
        ParrotJury jury = Juries.of(2);
        jury.listen(0, 1);
        jury.whisper(1, 22, 0);
        Due.same("0 never takes a last half", jury.agrees(), -1);
        jury.listen(1, 0);
        Due.same("1 takes the last half of 0", jury.agrees(), 1);
    }

    private static void foreseeTellsWords() {
        ParrotJury jury = waverers();
        Due.same("foresee(1, 0)", jury.foresee(1, 0), 1122);
        Due.same("foresee(2, 0)", jury.foresee(2, 0), 1122);
        Due.same("foresee(3, 0)", jury.foresee(3, 0), 2222);
        Due.same("foresee(3, 1)", jury.foresee(3, 1), 2222);
        Due.same("foresee(200, 0)", jury.foresee(200, 0), 2222);
        jury.pass(2);
        Due.same("foresee(1, 0) behind 2 rounds", jury.foresee(1, 0), 2222);
        ParrotJury pair = Juries.swappers();
        Due.same("foresee(199, 0)", pair.foresee(199, 0), 2211);
        Due.same("foresee(200, 0)", pair.foresee(200, 0), 1111);
        Due.same("foresee(200, 2)", pair.foresee(200, 2), 2222);
    }

    private static void adviseFindsTheBest() {
        Due.same("advise without parrots", new ParrotJury().advise(1, 1), -1);
        Due.same("advise of one", Juries.of(1).advise(9999, 40), 0);
        Due.same("advise of alike ones", Juries.of(12).advise(0, 1), 0);
        ParrotJury jury = Juries.of(3);
        jury.listen(0, 1);
        jury.listen(2, 1);
        Due.same("two hear 1", jury.advise(5500, 1), 1);
        Due.same("none takes a last half", jury.advise(55, 1), 0);
    }

    private static void adviseGoesByRounds() {
        ParrotJury jury = Juries.of(5);
        jury.listen(0, 2);
        jury.listen(2, 4);
        Due.same("one round", jury.advise(5500, 1), 2);
        Due.same("two rounds", jury.advise(5500, 2), 4);
        Due.same("forty rounds", jury.advise(5500, 40), 4);
    }

    private static void sourceFollowsAll() {
        ParrotJury jury = Juries.of(6);
        Due.same("source of one that listens to none", jury.source(0), 0);
        jury.listen(0, 1);
        jury.listen(1, 2);
        jury.listen(0, 5);
        Due.same("source(0)", jury.source(0), 38);
        Due.same("source(1)", jury.source(1), 4);
        Due.same("source(2)", jury.source(2), 0);
        jury.listen(2, 0);
        jury.listen(3, 0);
        Due.same("source(0) in a ring", jury.source(0), 39);
        Due.same("source(2) in a ring", jury.source(2), 39);
        Due.same("source(3) beside the ring", jury.source(3), 39);
        Due.same("source(5)", jury.source(5), 0);
        jury.raise(5, 5);
        Due.same("source goes by listening, not by hearing", jury.source(0), 39);
        jury.listen(1, 2);
        Due.same("source(0) behind a drop", jury.source(0), 34);
    }

    private static void meanDivides() {
        Due.sameDouble("mean without parrots", new ParrotJury().mean(), 0.0);
        ParrotJury alone = Juries.of(1);
        alone.whisper(0, 1, 7);
        Due.sameDouble("mean of one", alone.mean(), 7.0);
        ParrotJury jury = Juries.of(3);
        Due.sameDouble("mean of none sure", jury.mean(), 0.0);
        jury.whisper(0, 1, 3);
        jury.whisper(1, 1, 4);
        Due.sameDouble("mean of 7 by 3", jury.mean(), 7.0 / 3.0);
        jury.whisper(2, 1, 2);
        Due.sameDouble("mean of 9 by 3", jury.mean(), 3.0);
        jury.come(1, 1);
        Due.sameDouble("mean of 9 by 4", jury.mean(), 2.25);
    }

    private static void digestTellsStatesApart() {
        ParrotJury jury = Juries.swappers();
        long before = jury.digest();
        jury.listen(1, 2);
        jury.listen(1, 0);
        long inOrder = jury.digest();
        jury.listen(1, 2);
        jury.listen(1, 2);
        Due.holds("digest goes by the order of listening", jury.digest() != inOrder);
        jury.listen(1, 2);
        jury.listen(1, 0);
        Due.same("digest of the same state", jury.digest(), before);
    }

    private static void nothingIsChanged() {
        ParrotJury jury = Juries.swappers();
        jury.pass(7);
        long before = jury.digest();
        jury.agrees();
        Due.same("digest behind agrees()", jury.digest(), before);
        jury.foresee(200, 1);
        Due.same("digest behind foresee()", jury.digest(), before);
        jury.advise(9876, 40);
        Due.same("digest behind advise()", jury.digest(), before);
        jury.source(0);
        jury.mean();
        jury.verdict();
        jury.votes(1);
        jury.left(1);
        Due.same("digest behind the other looks", jury.digest(), before);
        Due.same("pass behind the looks", jury.pass(1), 2);
    }
}
