/** Promises 1 to 5: a new object, come, listen, raise, whisper. */
public final class ParrotsTest {
    public static void main(String[] args) {
        newObject();
        comeNumbersParrots();
        comeInALaterRound();
        listenKeepsOrder();
        listenDropsFromTheMiddle();
        raiseTellsWhatWas();
        whisperTellsTheWordBefore();
        Due.end("ParrotsTest");
    }

    private static void newObject() {
        ParrotJury jury = new ParrotJury();
        for (int what = 0; what <= 5; what++) {
            Due.same("count of a new object " + what, jury.count(what), 0);
        }
        Due.same("verdict of a new object", jury.verdict(), -1);
        Due.same("digest of a new object", jury.digest(), 808515853391L);
        Due.same("two objects are apart", Juries.of(2).count(1) + jury.count(1), 2);
    }

    private static void comeNumbersParrots() {
        ParrotJury jury = new ParrotJury();
        for (int i = 0; i < 12; i++) {
            Due.same("come " + i, jury.come(i % 9 + 1, i % 5 + 1), i);
            Due.same("parrots behind come " + i, jury.count(1), i + 1);
        }
        for (int i = 0; i < 12; i++) {
            Due.same("memory of " + i, jury.parrot(i, 2), i % 9 + 1);
            Due.same("loud of " + i, jury.parrot(i, 3), i % 5 + 1);
        }
    }

    private static void comeInALaterRound() {
        ParrotJury jury = Juries.of(2);
        jury.listen(0, 1);
        jury.whisper(1, 4321, 9);
        jury.pass(5);
        Due.same("come later", jury.come(9, 5), 2);
        Due.same("its word", jury.parrot(2, 0), 0);
        Due.same("its being sure", jury.parrot(2, 1), 0);
        Due.same("word of another one", jury.parrot(0, 0), 4300);
        Due.same("the round", jury.count(0), 5);
    }

    private static void listenKeepsOrder() {
        ParrotJury jury = Juries.of(6);
        Due.same("listen(2, 5)", jury.listen(2, 5), 1);
        Due.same("listen(2, 0)", jury.listen(2, 0), 2);
        Due.same("listen(2, 3)", jury.listen(2, 3), 3);
        Due.same("listen(2, 1)", jury.listen(2, 1), 4);
        int[] due = {5, 0, 3, 1};
        for (int i = 0; i < due.length; i++) {
            Due.same("hears(2, " + i + ")", jury.hears(2, i), due[i]);
        }
        Due.same("another one listens to none", jury.parrot(3, 4), 0);
        Due.same("listening is one way", jury.parrot(5, 4), 0);
    }

    private static void listenDropsFromTheMiddle() {
        ParrotJury jury = Juries.of(6);
        for (int other : new int[] {5, 0, 3, 1}) {
            jury.listen(2, other);
        }
        Due.same("listen(2, 0) drops", jury.listen(2, 0), 3);
        int[] due = {5, 3, 1};
        for (int i = 0; i < due.length; i++) {
            Due.same("hears behind the drop " + i, jury.hears(2, i), due[i]);
        }
        Due.same("listen(2, 0) comes last", jury.listen(2, 0), 4);
        Due.same("hears(2, 3)", jury.hears(2, 3), 0);
        Due.same("listen(2, 5) drops the first", jury.listen(2, 5), 3);
        Due.same("hears(2, 0)", jury.hears(2, 0), 3);
        Due.same("hears(2, 2)", jury.hears(2, 2), 0);
        Due.same("listen(2, 0) drops the last", jury.listen(2, 0), 2);
        Due.same("listen(2, 3)", jury.listen(2, 3), 1);
        Due.same("listen(2, 1)", jury.listen(2, 1), 0);
        Due.same("hears none", jury.parrot(2, 6), -1);
    }

    private static void raiseTellsWhatWas() {
        ParrotJury jury = new ParrotJury();
        jury.come(4, 2);
        jury.come(4, 3);
        Due.same("raise(0, 5)", jury.raise(0, 5), 2);
        Due.same("loud", jury.parrot(0, 3), 5);
        Due.same("raise(0, 1)", jury.raise(0, 1), 5);
        Due.same("raise(0, 1) again", jury.raise(0, 1), 1);
        Due.same("the other one", jury.parrot(1, 3), 3);
    }

    private static void whisperTellsTheWordBefore() {
        ParrotJury jury = Juries.of(2);
        Due.same("whisper(1, 9999, 9)", jury.whisper(1, 9999, 9), 0);
        Due.same("its word", jury.parrot(1, 0), 9999);
        Due.same("its being sure", jury.parrot(1, 1), 9);
        Due.same("whisper(1, 305, 0)", jury.whisper(1, 305, 0), 9999);
        Due.same("its first half", jury.half(1, false, 0), 3);
        Due.same("its last half", jury.half(1, true, 0), 5);
        Due.same("whisper(1, 0, 4)", jury.whisper(1, 0, 4), 305);
        Due.same("the other one's word", jury.parrot(0, 0), 0);
        Due.same("the other one's being sure", jury.parrot(0, 1), 0);
    }
}
