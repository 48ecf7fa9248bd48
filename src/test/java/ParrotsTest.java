/** Promises 1 to 5: a new object, come, listen, raise, whisper. */
public final class ParrotsTest {
    private static final int[] NOT_1_TO_5 = {0, 6, -1, Integer.MIN_VALUE, Integer.MAX_VALUE};
    private static final int[] NOT_1_TO_9 = {0, 10, -1, Integer.MIN_VALUE, Integer.MAX_VALUE};
    private static final int[] NO_WORD = {-1, 10000, Integer.MIN_VALUE, Integer.MAX_VALUE};
    private static final int[] NOT_0_TO_9 = {-1, 10, Integer.MIN_VALUE, Integer.MAX_VALUE};

    public static void main(String[] args) {
        newObject();
        comeNumbersParrots();
        comeMakesAParrotAtFirst();
        comeInALaterRound();
        comeRefuses();
        listenKeepsOrder();
        listenDropsFromTheMiddle();
        listenRefuses();
        listenDropsAlsoWhenFull();
        listenTellsAllNumbers();
        raiseTellsWhatWas();
        raiseRefuses();
        whisperTellsTheWordBefore();
        whisperForgetsWays();
        whisperRefuses();
        Due.end("ParrotsTest");
    }

    private static ParrotJury juryOf(int many) {
        ParrotJury jury = new ParrotJury();
        for (int i = 0; i < many; i++) {
            jury.come(1, 1);
        }
        return jury;
    }

    private static void newObject() {
        ParrotJury jury = new ParrotJury();
        for (int what = 0; what <= 5; what++) {
            Due.same("count of a new object " + what, jury.count(what), 0);
        }
        Due.same("verdict of a new object", jury.verdict(), -1);
        Due.same("digest of a new object", jury.digest(), 808515853391L);
        Due.outside(jury, "parrot(0, 0) of a new object", () -> jury.parrot(0, 0));
        Due.same("two objects are apart", juryOf(2).count(1) + jury.count(1), 2);
    }

    private static void comeNumbersParrots() {
        ParrotJury jury = new ParrotJury();
        for (int i = 0; i < 12; i++) {
            Due.same("come " + i, jury.come(i % 9 + 1, i % 5 + 1), i);
            Due.same("parrots behind come " + i, jury.count(1), i + 1);
        }
        for (int i = 0; i < 12; i++) {
            Due.same("memory of " + i, jury.parrot(i, 2), i % 9 + 1);
            Due.same("loud of " + i, jury.parrot(i, 3), i % 5 + 1);
        }
    }

    private static void comeMakesAParrotAtFirst() {
        ParrotJury jury = new ParrotJury();
        jury.come(7, 3);
        int[] due = {0, 0, 7, 3, 0, 0, -1};
        for (int what = 0; what < due.length; what++) {
            Due.same("new parrot " + what, jury.parrot(0, what), due[what]);
        }
        int[] half = {0, -1, 0};
        for (int what = 0; what < half.length; what++) {
            Due.same("new first half " + what, jury.half(0, false, what), half[what]);
            Due.same("new last half " + what, jury.half(0, true, what), half[what]);
        }
    }

    private static void comeInALaterRound() {
        ParrotJury jury = juryOf(2);
        jury.listen(0, 1);
        jury.whisper(1, 4321, 9);
        jury.pass(5);
        Due.same("come later", jury.come(9, 5), 2);
        Due.same("its word", jury.parrot(2, 0), 0);
        Due.same("its being sure", jury.parrot(2, 1), 0);
        Due.same("word of another one", jury.parrot(0, 0), 4300);
        Due.same("the round", jury.count(0), 5);
    }

    private static void comeRefuses() {
        ParrotJury jury = juryOf(11);
        for (int bad : NOT_1_TO_9) {
            Due.illegal(jury, "come(" + bad + ", 1)", () -> jury.come(bad, 1));
        }
        for (int bad : NOT_1_TO_5) {
            Due.illegal(jury, "come(1, " + bad + ")", () -> jury.come(1, bad));
        }
        jury.come(9, 5);
        Due.notNow(jury, "come as the 13th", () -> jury.come(1, 1));
        Due.illegal(jury, "come(0, 1) as the 13th", () -> jury.come(0, 1));
        Due.illegal(jury, "come(1, 6) as the 13th", () -> jury.come(1, 6));
        Due.same("parrots", jury.count(1), 12);
    }

    private static void listenKeepsOrder() {
        ParrotJury jury = juryOf(6);
        Due.same("listen(2, 5)", jury.listen(2, 5), 1);
        Due.same("listen(2, 0)", jury.listen(2, 0), 2);
        Due.same("listen(2, 3)", jury.listen(2, 3), 3);
        Due.same("listen(2, 1)", jury.listen(2, 1), 4);
        int[] due = {5, 0, 3, 1};
        for (int i = 0; i < due.length; i++) {
            Due.same("hears(2, " + i + ")", jury.hears(2, i), due[i]);
        }
        Due.same("another one listens to none", jury.parrot(3, 4), 0);
        Due.same("listening is one way", jury.parrot(5, 4), 0);
    }

    private static void listenDropsFromTheMiddle() {
        ParrotJury jury = juryOf(6);
        for (int other : new int[] {5, 0, 3, 1}) {
            jury.listen(2, other);
        }
        Due.same("listen(2, 0) drops", jury.listen(2, 0), 3);
        int[] due = {5, 3, 1};
        for (int i = 0; i < due.length; i++) {
            Due.same("hears behind the drop " + i, jury.hears(2, i), due[i]);
        }
        Due.outside(jury, "hears(2, 3) behind the drop", () -> jury.hears(2, 3));
        Due.same("listen(2, 0) comes last", jury.listen(2, 0), 4);
        Due.same("hears(2, 3)", jury.hears(2, 3), 0);
        Due.same("listen(2, 5) drops the first", jury.listen(2, 5), 3);
        Due.same("hears(2, 0)", jury.hears(2, 0), 3);
        Due.same("hears(2, 2)", jury.hears(2, 2), 0);
        Due.same("listen(2, 0) drops the last", jury.listen(2, 0), 2);
        Due.same("listen(2, 3)", jury.listen(2, 3), 1);
        Due.same("listen(2, 1)", jury.listen(2, 1), 0);
        Due.same("hears none", jury.parrot(2, 6), -1);
    }

    private static void listenRefuses() {
        ParrotJury jury = juryOf(6);
        Due.outside(jury, "listen(6, 0)", () -> jury.listen(6, 0));
        Due.outside(jury, "listen(0, 6)", () -> jury.listen(0, 6));
        Due.outside(jury, "listen(-1, 0)", () -> jury.listen(-1, 0));
        Due.outside(jury, "listen(0, -1)", () -> jury.listen(0, -1));
        Due.outside(jury, "listen(6, 6)", () -> jury.listen(6, 6));
        Due.outside(jury, "listen(-1, -1)", () -> jury.listen(-1, -1));
        Due.outside(jury, "listen(least, most)", () -> jury.listen(Integer.MIN_VALUE, Integer.MAX_VALUE));
        Due.illegal(jury, "listen(3, 3)", () -> jury.listen(3, 3));
        for (int other = 1; other <= 4; other++) {
            jury.listen(0, other);
        }
        Due.notNow(jury, "listen(0, 5) as the 5th", () -> jury.listen(0, 5));
        Due.illegal(jury, "listen(0, 0) when full", () -> jury.listen(0, 0));
        Due.outside(jury, "listen(0, 6) when full", () -> jury.listen(0, 6));
    }

    private static void listenDropsAlsoWhenFull() {
        ParrotJury jury = juryOf(6);
        for (int other = 1; other <= 4; other++) {
            jury.listen(0, other);
        }
        Due.same("listen(0, 4) when full", jury.listen(0, 4), 3);
        Due.same("listen(0, 5) behind it", jury.listen(0, 5), 4);
        Due.same("hears(0, 3)", jury.hears(0, 3), 5);
    }

    private static void listenTellsAllNumbers() {
        ParrotJury jury = juryOf(12);
        Due.same("listen(11, 0)", jury.listen(11, 0), 1);
        Due.same("listen(0, 11)", jury.listen(0, 11), 1);
        for (int other : new int[] {10, 9, 8}) {
            jury.listen(11, other);
        }
        Due.same("hears(11, 3)", jury.hears(11, 3), 8);
        Due.same("hears(0, 0)", jury.hears(0, 0), 11);
    }

    private static void raiseTellsWhatWas() {
        ParrotJury jury = new ParrotJury();
        jury.come(4, 2);
        jury.come(4, 3);
        Due.same("raise(0, 5)", jury.raise(0, 5), 2);
        Due.same("loud", jury.parrot(0, 3), 5);
        Due.same("raise(0, 1)", jury.raise(0, 1), 5);
        Due.same("raise(0, 1) again", jury.raise(0, 1), 1);
        Due.same("the other one", jury.parrot(1, 3), 3);
    }

    private static void raiseRefuses() {
        ParrotJury jury = juryOf(2);
        for (int bad : NOT_1_TO_5) {
            Due.illegal(jury, "raise(0, " + bad + ")", () -> jury.raise(0, bad));
            Due.outside(jury, "raise(2, " + bad + ")", () -> jury.raise(2, bad));
        }
        Due.outside(jury, "raise(2, 1)", () -> jury.raise(2, 1));
        Due.outside(jury, "raise(-1, 1)", () -> jury.raise(-1, 1));
    }

    private static void whisperTellsTheWordBefore() {
        ParrotJury jury = juryOf(2);
        Due.same("whisper(1, 9999, 9)", jury.whisper(1, 9999, 9), 0);
        Due.same("its word", jury.parrot(1, 0), 9999);
        Due.same("its being sure", jury.parrot(1, 1), 9);
        Due.same("whisper(1, 305, 0)", jury.whisper(1, 305, 0), 9999);
        Due.same("its first half", jury.half(1, false, 0), 3);
        Due.same("its last half", jury.half(1, true, 0), 5);
        Due.same("whisper(1, 0, 4)", jury.whisper(1, 0, 4), 305);
        Due.same("the other one's word", jury.parrot(0, 0), 0);
        Due.same("the other one's being sure", jury.parrot(0, 1), 0);
    }

    private static void whisperForgetsWays() {
        ParrotJury jury = juryOf(3);
        jury.listen(0, 1);
        jury.listen(1, 0);
        jury.whisper(0, 1111, 0);
        jury.whisper(1, 2222, 0);
        jury.pass(1);
        Due.same("from whom 0 has its first half", jury.half(0, false, 1), 1);
        Due.same("from whom 1 has its last half", jury.half(1, true, 1), 0);
        Due.same("taken", jury.count(5), 2);
        Due.same("whisper(0, 5678, 3)", jury.whisper(0, 5678, 3), 2211);
        Due.same("whisper(1, 5678, 3)", jury.whisper(1, 5678, 3), 2211);
        for (int parrot = 0; parrot < 2; parrot++) {
            Due.same("first half from the court", jury.half(parrot, false, 1), -1);
            Due.same("first half over none", jury.half(parrot, false, 2), 0);
            Due.same("last half from the court", jury.half(parrot, true, 1), -1);
            Due.same("last half over none", jury.half(parrot, true, 2), 0);
        }
        Due.same("taken stays", jury.count(5), 2);
        Due.same("the round stays", jury.count(0), 1);
    }

    private static void whisperRefuses() {
        ParrotJury jury = juryOf(2);
        for (int bad : NO_WORD) {
            Due.illegal(jury, "whisper(0, " + bad + ", 0)", () -> jury.whisper(0, bad, 0));
            Due.outside(jury, "whisper(2, " + bad + ", 0)", () -> jury.whisper(2, bad, 0));
        }
        for (int bad : NOT_0_TO_9) {
            Due.illegal(jury, "whisper(0, 1, " + bad + ")", () -> jury.whisper(0, 1, bad));
            Due.outside(jury, "whisper(-1, 1, " + bad + ")", () -> jury.whisper(-1, 1, bad));
        }
        Due.outside(jury, "whisper(2, 1, 1)", () -> jury.whisper(2, 1, 1));
        Due.outside(jury, "whisper(-1, 1, 1)", () -> jury.whisper(-1, 1, 1));
    }
}
