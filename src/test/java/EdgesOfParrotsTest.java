/** The edges that promises 1 to 5 name: a new object, come, listen, raise, whisper; the sentence stands above each. */
public final class EdgesOfParrotsTest {
    public static void main(String[] args) {
        aNewObjectIsWithoutParrots();
        aNewObjectIsInRound0();
        aNewObjectRefusesParrot0();
        aParrotAtFirst();
        memoryIs1To9();
        loudIs1To5();
        atMost12Come();
        whichComesFirstOfCome();
        listenNeedsAParrot();
        listenNeedsAnotherParrot();
        listenNotToItself();
        listenToAtMost4();
        toBeHeardHasNoMost();
        listenOrNoMore();
        whichComesFirstOfListen();
        raiseNeedsAParrot();
        raiseIs1To5();
        whichComesFirstOfRaise();
        whisperNeedsAParrot();
        whisperedWordIs0To9999();
        whisperedSureIs0To9();
        bothHalvesAreFromTheCourt();
        whichComesFirstOfWhisper();
        calls512();
        Due.end("EdgesOfParrotsTest");
    }

    // "Creates a jury without parrots"
    private static void aNewObjectIsWithoutParrots() {
        ParrotJury jury = new ParrotJury();
        Due.same("parrots of a new object", jury.count(1), 0);
        Due.same("words of a new object", jury.count(2), 0);
        Due.same("halves of a new object", jury.count(3), 0);
        Due.same("sure of a new object", jury.count(4), 0);
        Due.same("taken of a new object", jury.count(5), 0);
        Due.same("the first one that comes", jury.come(1, 1), 0);
        Due.same("parrots then", jury.count(1), 1);
        Due.same("parrots of another new object", new ParrotJury().count(1), 0);
    }

    // "in the round 0"; "Time is told in rounds, from 0."
    private static void aNewObjectIsInRound0() {
        ParrotJury jury = new ParrotJury();
        Due.same("round of a new object", jury.count(0), 0);
        jury.come(1, 1);
        Due.same("round behind come", jury.count(0), 0);
        jury.pass(1);
        Due.same("round behind pass(1)", jury.count(0), 1);
    }

    // "if there is no such parrot", of which there is none at first
    private static void aNewObjectRefusesParrot0() {
        Refused.Made none = ParrotJury::new;
        Refused.outside(none, "listen(0, 1) of none", jury -> jury.listen(0, 1));
        Refused.outside(none, "listen(0, 0) of none", jury -> jury.listen(0, 0));
        Refused.outside(none, "raise(0, 1) of none", jury -> jury.raise(0, 1));
        Refused.outside(none, "whisper(0, 0, 0) of none", jury -> jury.whisper(0, 0, 0));
        Refused.outside(none, "parrot(0, 0) of none", jury -> jury.parrot(0, 0));
        Refused.outside(none, "half(0, false, 0) of none", jury -> jury.half(0, false, 0));
        Refused.outside(none, "hears(0, 0) of none", jury -> jury.hears(0, 0));
        Refused.outside(none, "foresee(1, 0) of none", jury -> jury.foresee(1, 0));
        Refused.outside(none, "source(0) of none", jury -> jury.source(0));
    }

    // "each says a word (0, at first), .. from which parrot it took it, -1 from the court (at first, too), and over
    // how many parrots it came, 0 from the court; it is sure, 0 to 9 (0, at first)"
    private static void aParrotAtFirst() {
        ParrotJury small = new ParrotJury();
        small.come(3, 4);
        int[] due = {0, 0, 3, 4, 0, 0, -1};
        for (int what = 0; what < due.length; what++) {
            Due.same("parrot(0, " + what + ") at first", small.parrot(0, what), due[what]);
        }
        ParrotJury later = Juries.swappers();
        later.pass(200);
        Due.same("who comes later", later.come(3, 4), 3);
        for (int what = 0; what < due.length; what++) {
            Due.same("parrot(3, " + what + ") later", later.parrot(3, what), due[what]);
        }
        int[] half = {0, -1, 0};
        for (int what = 0; what < half.length; what++) {
            Due.same("first half at first " + what, later.half(3, false, what), half[what]);
            Due.same("last half at first " + what, later.half(3, true, what), half[what]);
        }
    }

    // "Throws IllegalArgumentException if memory is not 1 to 9"
    private static void memoryIs1To9() {
        int[] good = {1, 2, 8, 9};
        ParrotJury jury = new ParrotJury();
        for (int i = 0; i < good.length; i++) {
            Due.same("come(" + good[i] + ", 1)", jury.come(good[i], 1), i);
            Due.same("memory " + good[i], jury.parrot(i, 2), good[i]);
        }
        Refused.illegalBeyond(1, 9, ParrotJury::new, "come of the first, memory", (x, bad) -> x.come(bad, 1));
        Refused.illegalBeyond(1, 9, Juries::swappers, "come of the fourth, memory", (x, bad) -> x.come(bad, 5));
    }

    // "or loud is not 1 to 5"
    private static void loudIs1To5() {
        int[] good = {1, 2, 4, 5};
        ParrotJury jury = new ParrotJury();
        for (int i = 0; i < good.length; i++) {
            Due.same("come(9, " + good[i] + ")", jury.come(9, good[i]), i);
            Due.same("loud " + good[i], jury.parrot(i, 3), good[i]);
        }
        Refused.illegalBeyond(1, 5, ParrotJury::new, "come of the first, loud", (x, bad) -> x.come(1, bad));
        Refused.illegalBeyond(1, 5, Juries::swappers, "come of the fourth, loud", (x, bad) -> x.come(9, bad));
        Refused.illegalBeyond(1, 5, ParrotJury::new, "come with no memory, loud", (x, bad) -> x.come(0, bad));
    }

    // "There are at most 12, numbered from 0"; "Throws IllegalStateException if there are 12"
    private static void atMost12Come() {
        ParrotJury jury = Juries.of(10);
        Due.same("the 11th", jury.come(1, 1), 10);
        Due.same("the 12th", jury.come(9, 5), 11);
        Due.same("parrots", jury.count(1), 12);
        Due.same("memory of the 12th", jury.parrot(11, 2), 9);
        Refused.notNow(() -> Juries.of(12), "come(1, 1) as the 13th", x -> x.come(1, 1));
        Refused.notNow(() -> Juries.of(12), "come(9, 5) as the 13th", x -> x.come(9, 5));
        Refused.notNow(Juries::ringLater, "come to the ring", x -> x.come(5, 3));
        Refused.notNow(Juries::ringLater, "come three times to the ring", x -> {
            tryToCome(x);
            tryToCome(x);
            x.come(1, 1);
        });
    }

    private static void tryToCome(ParrotJury jury) {
        try {
            jury.come(1, 1);
            Due.holds("a 13th came", false);
        } catch (IllegalStateException e) {
            Due.same("parrots behind a refused one", jury.count(1), 12);
        }
    }

    // "the one that is named first is thrown": ahead of being 12
    private static void whichComesFirstOfCome() {
        Refused.illegalBeyond(1, 9, Juries::ring, "come as the 13th, memory", (x, bad) -> x.come(bad, 1));
        Refused.illegalBeyond(1, 5, Juries::ring, "come as the 13th, loud", (x, bad) -> x.come(1, bad));
        Refused.illegal(Juries::ring, "come(0, 0) as the 13th", x -> x.come(0, 0));
        Refused.illegal(Juries::ring, "come(10, 6) as the 13th", x -> x.come(10, 6));
    }

    // "Throws IndexOutOfBoundsException if there is no such parrot": the one that listens
    private static void listenNeedsAParrot() {
        ParrotJury jury = Juries.of(12);
        Due.same("listen(0, 11)", jury.listen(0, 11), 1);
        Due.same("listen(11, 0)", jury.listen(11, 0), 1);
        Due.same("listen(10, 1)", jury.listen(10, 1), 1);
        Due.same("listen(1, 10)", jury.listen(1, 10), 1);
        Refused.outsideBeyond(0, 11, Juries::ringLater, "listen of 12 to 3", (x, bad) -> x.listen(bad, 3));
        Refused.outsideBeyond(0, 2, Juries::swappers, "listen of 3 to 1", (x, bad) -> x.listen(bad, 1));
        Refused.outsideBeyond(0, 0, () -> Juries.of(1), "listen of 1 to 0", (x, bad) -> x.listen(bad, 0));
    }

    // the same of the other one
    private static void listenNeedsAnotherParrot() {
        Refused.outsideBeyond(0, 11, Juries::ringLater, "listen of 12, 3 to", (x, bad) -> x.listen(3, bad));
        Refused.outsideBeyond(0, 2, Juries::swappers, "listen of 3, 1 to", (x, bad) -> x.listen(1, bad));
        Refused.outsideBeyond(0, 0, () -> Juries.of(1), "listen of 1, 0 to", (x, bad) -> x.listen(0, bad));
        ParrotJury jury = Juries.of(1);
        jury.come(1, 1);
        Due.same("listen(0, 1) when it has come", jury.listen(0, 1), 1);
    }

    // "Throws IllegalArgumentException if both are the same"
    private static void listenNotToItself() {
        for (int parrot : new int[] {0, 1, 11}) {
            Refused.illegal(() -> Juries.of(12), "listen to itself " + parrot, x -> x.listen(parrot, parrot));
        }
        Refused.illegal(() -> Juries.of(1), "listen(0, 0) of one", x -> x.listen(0, 0));
        ParrotJury jury = Juries.of(12);
        Due.same("listen(5, 4)", jury.listen(5, 4), 1);
        Due.same("listen(5, 6)", jury.listen(5, 6), 2);
    }

    // "it listens to at most 4 others"; "Throws IllegalStateException if it does not, and listens to 4"
    private static void listenToAtMost4() {
        ParrotJury jury = Juries.of(12);
        for (int i = 1; i <= 4; i++) {
            Due.same("to how many it listens " + i, jury.listen(0, i), i);
        }
        Due.same("to how many it listens then", jury.parrot(0, 4), 4);
        Refused.Made full = EdgesOfParrotsTest::listeningToFour;
        Refused.notNow(full, "listen(0, 5) as the 5th", x -> x.listen(0, 5));
        Refused.notNow(full, "listen(0, 11) as the 5th", x -> x.listen(0, 11));
        Refused.notNow(Juries::ringLater, "listen(11, 10) as the 5th", x -> x.listen(11, 10));
        for (int i = 1; i <= 4; i++) {
            ParrotJury other = full.make();
            Due.same("no more, though it listens to 4, " + i, other.listen(0, i), 3);
            Due.same("another one then", other.listen(0, 5), 4);
        }
    }

    private static ParrotJury listeningToFour() {
        ParrotJury jury = Juries.of(12);
        for (int i = 1; i <= 4; i++) {
            jury.listen(0, i);
        }
        return jury;
    }

    // the 4 are those to which one listens, not those who listen to it
    private static void toBeHeardHasNoMost() {
        ParrotJury jury = Juries.of(12);
        for (int i = 0; i < 11; i++) {
            Due.same("listen(" + i + ", 11)", jury.listen(i, 11), 1);
            Due.same("listeners of 11", jury.parrot(11, 5), i + 1);
        }
        Due.same("listen(11, 0)", jury.listen(11, 0), 1);
    }

    // "behind those to which it listens; or no more, if it does": the first, one between and the last place
    private static void listenOrNoMore() {
        int[][] due = {{2, 3, 4}, {1, 3, 4}, {1, 2, 4}, {1, 2, 3}};
        for (int gone = 1; gone <= 4; gone++) {
            ParrotJury jury = listeningToFour();
            Due.same("no more to " + gone, jury.listen(0, gone), 3);
            for (int place = 0; place < 3; place++) {
                Due.same("without " + gone + ", place " + place, jury.hears(0, place), due[gone - 1][place]);
            }
            Due.same("listeners of " + gone, jury.parrot(gone, 5), 0);
            Due.same("again to " + gone, jury.listen(0, gone), 4);
            Due.same("behind the others " + gone, jury.hears(0, 3), gone);
        }
        ParrotJury one = Juries.of(2);
        Due.same("to one", one.listen(1, 0), 1);
        Due.same("to none", one.listen(1, 0), 0);
        Due.same("to one again", one.listen(1, 0), 1);
    }

    // "the one that is named first is thrown": no such parrot, then the same, then the 5th
    private static void whichComesFirstOfListen() {
        Refused.Made full = EdgesOfParrotsTest::listeningToFour;
        Refused.outside(full, "listen(12, 12), both the same", x -> x.listen(12, 12));
        Refused.outside(full, "listen(-1, -1), both the same", x -> x.listen(-1, -1));
        Refused.outside(full, "listen(0, 12) as the 5th", x -> x.listen(0, 12));
        Refused.outside(full, "listen(0, -1) as the 5th", x -> x.listen(0, -1));
        Refused.illegal(full, "listen(0, 0) as the 5th", x -> x.listen(0, 0));
    }

    // "Throws IndexOutOfBoundsException if there is no such parrot"
    private static void raiseNeedsAParrot() {
        ParrotJury jury = Juries.of(12);
        Due.same("raise(0, 3)", jury.raise(0, 3), 1);
        Due.same("raise(11, 4)", jury.raise(11, 4), 1);
        Due.same("loud of 11", jury.parrot(11, 3), 4);
        Refused.outsideBeyond(0, 11, Juries::ringLater, "raise of 12", (x, bad) -> x.raise(bad, 2));
        Refused.outsideBeyond(0, 2, Juries::swappers, "raise of 3", (x, bad) -> x.raise(bad, 2));
    }

    // "Throws IllegalArgumentException if loud is not 1 to 5"
    private static void raiseIs1To5() {
        ParrotJury jury = Juries.of(2);
        int was = 1;
        for (int good : new int[] {2, 1, 4, 5, 5, 1}) {
            Due.same("raise(1, " + good + ")", jury.raise(1, good), was);
            Due.same("loud " + good, jury.parrot(1, 3), good);
            was = good;
        }
        Refused.illegalBeyond(1, 5, Juries::ringLater, "raise", (x, bad) -> x.raise(4, bad));
    }

    // "the one that is named first is thrown"
    private static void whichComesFirstOfRaise() {
        Refused.outside(Juries::swappers, "raise(3, 0)", x -> x.raise(3, 0));
        Refused.outside(Juries::swappers, "raise(-1, 6)", x -> x.raise(-1, 6));
    }

    // "Throws IndexOutOfBoundsException if there is no such parrot"
    private static void whisperNeedsAParrot() {
        ParrotJury jury = Juries.of(12);
        Due.same("whisper(0, 12, 3)", jury.whisper(0, 12, 3), 0);
        Due.same("whisper(11, 34, 4)", jury.whisper(11, 34, 4), 0);
        Due.same("word of 11", jury.parrot(11, 0), 34);
        Refused.outsideBeyond(0, 11, Juries::ringLater, "whisper of 12", (x, bad) -> x.whisper(bad, 5, 5));
        Refused.outsideBeyond(0, 2, Juries::swappers, "whisper of 3", (x, bad) -> x.whisper(bad, 5, 5));
    }

    // "Throws IllegalArgumentException if word is not 0 to 9999"
    private static void whisperedWordIs0To9999() {
        ParrotJury jury = Juries.of(2);
        int was = 0;
        for (int good : new int[] {1, 0, 9998, 9999, 99, 100, 9900, 0}) {
            Due.same("whisper(1, " + good + ", 2)", jury.whisper(1, good, 2), was);
            Due.same("word " + good, jury.parrot(1, 0), good);
            Due.same("first half of " + good, jury.half(1, false, 0), good / 100);
            Due.same("last half of " + good, jury.half(1, true, 0), good % 100);
            was = good;
        }
        Refused.illegalBeyond(0, 9999, Juries::ringLater, "whisper a word", (x, bad) -> x.whisper(4, bad, 2));
    }

    // "or sure is not 0 to 9"
    private static void whisperedSureIs0To9() {
        ParrotJury jury = Juries.of(2);
        for (int good : new int[] {1, 0, 8, 9, 0}) {
            jury.whisper(1, 77, good);
            Due.same("sure " + good, jury.parrot(1, 1), good);
        }
        Refused.illegalBeyond(0, 9, Juries::ringLater, "whisper, sure", (x, bad) -> x.whisper(4, 1234, bad));
    }

    // "both halves are from the court", also if one was taken, and if the word is the same
    private static void bothHalvesAreFromTheCourt() {
        ParrotJury jury = Juries.of(2);
        jury.listen(0, 1);
        jury.listen(1, 0);
        jury.whisper(0, 1111, 0);
        jury.whisper(1, 2222, 0);
        jury.pass(1);
        Due.same("0 has its first half from 1", jury.half(0, false, 1), 1);
        Due.same("1 has its last half from 0", jury.half(1, true, 1), 0);
        Due.same("whisper its own word to 0", jury.whisper(0, 2211, 9), 2211);
        Due.same("its first half is from the court", jury.half(0, false, 1), -1);
        Due.same("over none", jury.half(0, false, 2), 0);
        Due.same("the other one's is not", jury.half(1, true, 1), 0);
        Due.same("whisper(1, 2211, 9)", jury.whisper(1, 2211, 9), 2211);
        Due.same("its last half is from the court", jury.half(1, true, 1), -1);
        Due.same("over none too", jury.half(1, true, 2), 0);
        Due.same("all from the court", jury.count(3), 4);
        Due.same("taken in all still", jury.count(5), 2);
        Due.same("the round still", jury.count(0), 1);
    }

    // "the one that is named first is thrown"
    private static void whichComesFirstOfWhisper() {
        Refused.outside(Juries::swappers, "whisper(3, 10000, 0)", x -> x.whisper(3, 10000, 0));
        Refused.outside(Juries::swappers, "whisper(-1, -1, 0)", x -> x.whisper(-1, -1, 0));
        Refused.outside(Juries::swappers, "whisper(3, 0, 10)", x -> x.whisper(3, 0, 10));
        Refused.outside(Juries::swappers, "whisper(-1, 0, -1)", x -> x.whisper(-1, 0, -1));
        Refused.illegal(Juries::swappers, "whisper(0, -1, 10)", x -> x.whisper(0, -1, 10));
    }

    // "An object is used for at most 512 calls after it has been made": the 511th and the 512th answer as others do
    private static void calls512() {
        ParrotJury jury = Juries.swappers();
        int made = 3 + 2 + 2;
        while (made < 509) {
            Due.same("pass(1) as call " + made, jury.pass(1), 2);
            made++;
        }
        Due.same("the 510th call", jury.count(0), 502);
        Due.same("the 511th call", jury.pass(1), 2);
        Due.same("the 512th call", jury.count(0), 503);
    }
}
