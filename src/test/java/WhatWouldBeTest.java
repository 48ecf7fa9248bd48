/** Promises 14 to 19: agrees, foresee, advise, source, mean, digest. */
public final class WhatWouldBeTest {
    private static final int[] NO_WORD = {-1, 10000, Integer.MIN_VALUE, Integer.MAX_VALUE};

    public static void main(String[] args) {
        agreesAtOnce();
        agreesLater();
        agreesByHalves();
        agreesNever();
        agreesBehind200AtMost();
        foreseeTellsWords();
        foreseeRefuses();
        adviseFindsTheBest();
        adviseGoesByRounds();
        adviseWhispersNineSure();
        adviseRefuses();
        sourceFollowsAll();
        sourceOfTwelve();
        sourceRefuses();
        meanDivides();
        digestOfNumbers();
        digestTellsStatesApart();
        nothingIsChanged();
        Due.end("WhatWouldBeTest");
    }

    private static ParrotJury juryOf(int many) {
        ParrotJury jury = new ParrotJury();
        for (int i = 0; i < many; i++) {
            jury.come(9, 1);
        }
        return jury;
    }

    /** 0 hears 1, is surer at first, and takes its first half in the third round. */
    private static ParrotJury waverers() {
        ParrotJury jury = juryOf(2);
        jury.listen(0, 1);
        jury.whisper(0, 1122, 5);
        jury.whisper(1, 2222, 3);
        return jury;
    }

    /** 0 and 2 take each other's first half in each round, for ever. */
    private static ParrotJury swappers() {
        ParrotJury jury = juryOf(3);
        jury.listen(0, 2);
        jury.listen(2, 0);
        jury.whisper(0, 1111, 0);
        jury.whisper(2, 2222, 0);
        return jury;
    }

    private static void agreesAtOnce() {
        Due.same("agrees without parrots", new ParrotJury().agrees(), 0);
        Due.same("agrees of one", juryOf(1).agrees(), 0);
        Due.same("agrees of twelve", juryOf(12).agrees(), 0);
        ParrotJury alone = juryOf(1);
        alone.whisper(0, 1234, 2);
        Due.same("agrees of one with a word", alone.agrees(), 0);
        ParrotJury jury = juryOf(2);
        jury.whisper(0, 9999, 1);
        jury.whisper(1, 9999, 7);
        Due.same("agrees when both say 9999", jury.agrees(), 0);
    }

    private static void agreesLater() {
        ParrotJury jury = waverers();
        for (int rounds = 3; rounds >= 0; rounds--) {
            Due.same("agrees with " + rounds + " rounds to go", jury.agrees(), rounds);
            jury.pass(1);
        }
        Due.same("agrees still", jury.agrees(), 0);
    }

    private static void agreesByHalves() {
        ParrotJury jury = juryOf(2);
        jury.listen(0, 1);
        jury.whisper(1, 22, 0);
        Due.same("0 never takes a last half", jury.agrees(), -1);
        jury.listen(1, 0);
        Due.same("1 takes the last half of 0", jury.agrees(), 1);
    }

    private static void agreesNever() {
        ParrotJury jury = juryOf(2);
        jury.whisper(0, 1, 0);
        Due.same("agrees when none listens", jury.agrees(), -1);
        Due.same("agrees of those who swap", swappers().agrees(), -1);
    }

    /** A jury that was searched for: the way of its words is that long. */
    private static void agreesBehind200AtMost() {
        int[] memory = {4, 4, 5, 4, 5, 2, 8, 2, 8, 3, 7, 1};
        int[] hears = {2, 6, 4, 2, 8, 9, 10, 4, 6, 1, 0, 5};
        int[] words = {201, 100, 201, 100, 101, 103, 201, 101, 101, 100, 1, 100};
        int[] sure = {6, 4, 6, 5, 3, 9, 1, 0, 9, 7, 8, 9};
        ParrotJury jury = new ParrotJury();
        for (int i = 0; i < 12; i++) {
            jury.come(memory[i], 1);
        }
        jury.pass(40);
        for (int i = 0; i < 12; i++) {
            jury.listen(i, hears[i]);
            jury.whisper(i, words[i], sure[i]);
        }
        jury.pass(3);
        Due.same("agrees, were it 201", jury.agrees(), -1);
        jury.pass(1);
        Due.same("agrees behind 200", jury.agrees(), 200);
        jury.pass(1);
        Due.same("agrees behind 199", jury.agrees(), 199);
        jury.pass(198);
        Due.same("two words ahead of the last round", jury.count(2) > 1 ? 1 : 0, 1);
        jury.pass(1);
        Due.same("one word behind it", jury.count(2), 1);
    }

    private static void foreseeTellsWords() {
        ParrotJury jury = waverers();
        Due.same("foresee(1, 0)", jury.foresee(1, 0), 1122);
        Due.same("foresee(2, 0)", jury.foresee(2, 0), 1122);
        Due.same("foresee(3, 0)", jury.foresee(3, 0), 2222);
        Due.same("foresee(3, 1)", jury.foresee(3, 1), 2222);
        Due.same("foresee(200, 0)", jury.foresee(200, 0), 2222);
        jury.pass(2);
        Due.same("foresee(1, 0) behind 2 rounds", jury.foresee(1, 0), 2222);
        ParrotJury pair = swappers();
        Due.same("foresee(199, 0)", pair.foresee(199, 0), 2211);
        Due.same("foresee(200, 0)", pair.foresee(200, 0), 1111);
        Due.same("foresee(200, 2)", pair.foresee(200, 2), 2222);
    }

    private static void foreseeRefuses() {
        ParrotJury jury = swappers();
        for (int bad : new int[] {0, 201, -1, Integer.MIN_VALUE, Integer.MAX_VALUE}) {
            Due.illegal(jury, "foresee(" + bad + ", 0)", () -> jury.foresee(bad, 0));
            Due.illegal(jury, "foresee(" + bad + ", 3)", () -> jury.foresee(bad, 3));
        }
        for (int bad : new int[] {-1, 3, 12, Integer.MIN_VALUE, Integer.MAX_VALUE}) {
            Due.outside(jury, "foresee(1, " + bad + ")", () -> jury.foresee(1, bad));
        }
    }

    private static void adviseFindsTheBest() {
        Due.same("advise without parrots", new ParrotJury().advise(1, 1), -1);
        Due.same("advise of one", juryOf(1).advise(9999, 40), 0);
        Due.same("advise of alike ones", juryOf(12).advise(0, 1), 0);
        ParrotJury jury = juryOf(3);
        jury.listen(0, 1);
        jury.listen(2, 1);
        Due.same("two hear 1", jury.advise(5500, 1), 1);
        Due.same("none takes a last half", jury.advise(55, 1), 0);
    }

    private static void adviseGoesByRounds() {
        ParrotJury jury = juryOf(5);
        jury.listen(0, 2);
        jury.listen(2, 4);
        Due.same("one round", jury.advise(5500, 1), 2);
        Due.same("two rounds", jury.advise(5500, 2), 4);
        Due.same("forty rounds", jury.advise(5500, 40), 4);
    }

    private static void adviseWhispersNineSure() {
        ParrotJury jury = juryOf(2);
        jury.listen(0, 1);
        jury.whisper(1, 2200, 8);
        Due.same("0 keeps 11 if it is 9 sure", jury.advise(11, 1), 0);
        jury.whisper(1, 2200, 9);
        Due.same("0 takes 22 from one as sure", jury.advise(11, 1), 1);
    }

    private static void adviseRefuses() {
        ParrotJury jury = swappers();
        for (int bad : NO_WORD) {
            Due.illegal(jury, "advise(" + bad + ", 1)", () -> jury.advise(bad, 1));
        }
        for (int bad : new int[] {0, 41, -1, 200, Integer.MIN_VALUE, Integer.MAX_VALUE}) {
            Due.illegal(jury, "advise(1, " + bad + ")", () -> jury.advise(1, bad));
        }
        ParrotJury none = new ParrotJury();
        Due.illegal(none, "advise(10000, 1) without parrots", () -> none.advise(10000, 1));
        Due.illegal(none, "advise(1, 41) without parrots", () -> none.advise(1, 41));
    }

    private static void sourceFollowsAll() {
        ParrotJury jury = juryOf(6);
        Due.same("source of one that listens to none", jury.source(0), 0);
        jury.listen(0, 1);
        jury.listen(1, 2);
        jury.listen(0, 5);
        Due.same("source(0)", jury.source(0), 38);
        Due.same("source(1)", jury.source(1), 4);
        Due.same("source(2)", jury.source(2), 0);
        jury.listen(2, 0);
        jury.listen(3, 0);
        Due.same("source(0) in a ring", jury.source(0), 39);
        Due.same("source(2) in a ring", jury.source(2), 39);
        Due.same("source(3) beside the ring", jury.source(3), 39);
        Due.same("source(5)", jury.source(5), 0);
        jury.raise(5, 5);
        Due.same("source goes by listening, not by hearing", jury.source(0), 39);
        jury.listen(1, 2);
        Due.same("source(0) behind a drop", jury.source(0), 34);
    }

    private static void sourceOfTwelve() {
        ParrotJury jury = juryOf(12);
        for (int i = 11; i > 0; i--) {
            jury.listen(i, i - 1);
        }
        Due.same("source(11) of a row", jury.source(11), 2047);
        Due.same("source(0) of a row", jury.source(0), 0);
        jury.listen(0, 11);
        for (int i = 0; i < 12; i++) {
            Due.same("source of a ring " + i, jury.source(i), 4095);
        }
        ParrotJury other = juryOf(12);
        for (int i = 0; i < 11; i++) {
            other.listen(i, i + 1);
        }
        Due.same("source(0) of the other row", other.source(0), 4094);
    }

    private static void sourceRefuses() {
        ParrotJury jury = swappers();
        for (int bad : new int[] {-1, 3, 12, 31, Integer.MIN_VALUE, Integer.MAX_VALUE}) {
            Due.outside(jury, "source(" + bad + ")", () -> jury.source(bad));
        }
    }

    private static void meanDivides() {
        Due.sameDouble("mean without parrots", new ParrotJury().mean(), 0.0);
        ParrotJury alone = juryOf(1);
        alone.whisper(0, 1, 7);
        Due.sameDouble("mean of one", alone.mean(), 7.0);
        ParrotJury jury = juryOf(3);
        Due.sameDouble("mean of none sure", jury.mean(), 0.0);
        jury.whisper(0, 1, 3);
        jury.whisper(1, 1, 4);
        Due.sameDouble("mean of 7 by 3", jury.mean(), 7.0 / 3.0);
        jury.whisper(2, 1, 2);
        Due.sameDouble("mean of 9 by 3", jury.mean(), 3.0);
        jury.come(1, 1);
        Due.sameDouble("mean of 9 by 4", jury.mean(), 2.25);
    }

    private static long digestOf(ParrotJury jury) {
        long d = 911;
        for (int what = 0; what < 6; what++) {
            d = d * 31 + jury.count(what);
        }
        for (int parrot = 0; parrot < jury.count(1); parrot++) {
            for (int what = 0; what < 7; what++) {
                d = d * 31 + jury.parrot(parrot, what);
            }
            for (int what = 0; what < 6; what++) {
                d = d * 31 + jury.half(parrot, what > 2, what % 3);
            }
            for (int place = 0; place < jury.parrot(parrot, 4); place++) {
                d = d * 31 + jury.hears(parrot, place);
            }
        }
        return d;
    }

    private static void digestOfNumbers() {
        Due.same("digest without parrots", new ParrotJury().digest(), 808515853391L);
        ParrotJury jury = swappers();
        jury.listen(1, 2);
        jury.listen(1, 0);
        for (int i = 0; i < 5; i++) {
            Due.same("digest behind rounds " + i, jury.digest(), digestOf(jury));
            jury.pass(i + 1);
        }
    }

    private static void digestTellsStatesApart() {
        ParrotJury jury = swappers();
        long before = jury.digest();
        jury.listen(1, 2);
        jury.listen(1, 0);
        long inOrder = jury.digest();
        jury.listen(1, 2);
        jury.listen(1, 2);
        Due.holds("digest goes by the order of listening", jury.digest() != inOrder);
        jury.listen(1, 2);
        jury.listen(1, 0);
        Due.same("digest of the same state", jury.digest(), before);
    }

    private static void nothingIsChanged() {
        ParrotJury jury = swappers();
        jury.pass(7);
        long before = jury.digest();
        jury.agrees();
        Due.same("digest behind agrees()", jury.digest(), before);
        jury.foresee(200, 1);
        Due.same("digest behind foresee()", jury.digest(), before);
        jury.advise(9876, 40);
        Due.same("digest behind advise()", jury.digest(), before);
        jury.source(0);
        jury.mean();
        jury.verdict();
        jury.votes(1);
        jury.left(1);
        Due.same("digest behind the other looks", jury.digest(), before);
        Due.same("pass behind the looks", jury.pass(1), 2);
    }
}
