/** The edges that the words and promises 6 to 12 name: parrot, half, hears, votes, verdict, left, count. */
public final class EdgesOfWhatIsThereTest {
    public static void main(String[] args) {
        parrotNeedsAParrot();
        parrotWhatIs0To6();
        howManyAreListenedTo();
        howManyListen();
        whoIsHeardIsMinus1ForNone();
        theLoudestIsHeard();
        ofSeveralTheFirstInItsOrder();
        halfNeedsAParrot();
        halfWhatIs0To2();
        halvesOfAWord();
        theCourtIsNotParrot0();
        hearsNeedsAParrot();
        hearsNeedsAPlace();
        votedWordIs0To9999();
        votesFromNoneToAll();
        verdictIsMinus1WithoutParrots();
        verdictIsWhatTheMostSay();
        verdictOfSeveral();
        leftWordIs0To9999();
        leftFromNoneToAll();
        leftGoesByEachHalf();
        countWhatIs0To5();
        differentWords();
        halvesFromTheCourt();
        sureAdded();
        Due.end("EdgesOfWhatIsThereTest");
    }

    // "Throws IndexOutOfBoundsException if there is no such parrot"
    private static void parrotNeedsAParrot() {
        ParrotJury jury = new ParrotJury();
        for (int i = 0; i < 12; i++) {
            jury.come(i % 9 + 1, 1);
            Due.same("memory of the last one " + i, jury.parrot(i, 2), i % 9 + 1);
        }
        Due.same("memory of the first one", jury.parrot(0, 2), 1);
        for (int what = 0; what <= 6; what++) {
            int asked = what;
            Refused.outsideBeyond(0, 2, Juries::swappers, "parrot of 3, " + what, (x, bad) -> x.parrot(bad, asked));
        }
        Refused.outsideBeyond(0, 11, Juries::ringLater, "parrot of 12", (x, bad) -> x.parrot(bad, 6));
        Refused.outside(Juries::swappers, "parrot(3, 7)", x -> x.parrot(3, 7));
    }

    // "or what is not 0 to 6"
    private static void parrotWhatIs0To6() {
        ParrotJury jury = new ParrotJury();
        jury.come(6, 4);
        jury.come(2, 3);
        jury.whisper(0, 708, 7);
        jury.listen(0, 1);
        int[] due = {708, 7, 6, 4, 1, 0, 1};
        for (int what = 0; what < due.length; what++) {
            Due.same("parrot(0, " + what + ")", jury.parrot(0, what), due[what]);
        }
        Refused.outsideBeyond(0, 6, Juries::ringLater, "parrot, what", (x, bad) -> x.parrot(0, bad));
    }

    // "4 to how many it listens": 0 to 4
    private static void howManyAreListenedTo() {
        ParrotJury jury = Juries.of(12);
        Due.same("to none", jury.parrot(0, 4), 0);
        for (int i = 1; i <= 4; i++) {
            jury.listen(0, 12 - i);
            Due.same("to how many " + i, jury.parrot(0, 4), i);
        }
        for (int i = 1; i <= 4; i++) {
            jury.listen(0, 12 - i);
            Due.same("to how many still " + i, jury.parrot(0, 4), 4 - i);
        }
    }

    // "5 how many listen to it": 0 to 11
    private static void howManyListen() {
        ParrotJury jury = Juries.of(12);
        Due.same("none listens", jury.parrot(0, 5), 0);
        for (int i = 1; i <= 11; i++) {
            jury.listen(i, 0);
            Due.same("how many listen " + i, jury.parrot(0, 5), i);
        }
        jury.listen(0, 11);
        Due.same("its own listening does not count", jury.parrot(0, 5), 11);
        jury.listen(11, 0);
        Due.same("without the last one", jury.parrot(0, 5), 10);
    }

    // "6 the one that it hears now, -1 for none"
    private static void whoIsHeardIsMinus1ForNone() {
        ParrotJury jury = Juries.of(2);
        Due.same("listens to none", jury.parrot(1, 6), -1);
        jury.listen(1, 0);
        Due.same("hears 0", jury.parrot(1, 6), 0);
        Due.same("0 hears none", jury.parrot(0, 6), -1);
        jury.listen(1, 0);
        Due.same("none again", jury.parrot(1, 6), -1);
    }

    // "it hears the loudest one of those to which it listens"
    private static void theLoudestIsHeard() {
        for (int loud = 1; loud <= 4; loud++) {
            ParrotJury jury = Juries.of(4);
            jury.listen(0, 1);
            jury.listen(0, 2);
            jury.raise(0, 5);
            jury.raise(3, 5);
            jury.raise(1, loud);
            jury.raise(2, loud + 1);
            Due.same("1 louder than " + loud, jury.parrot(0, 6), 2);
            jury.raise(2, loud);
            Due.same("as loud as " + loud, jury.parrot(0, 6), 1);
            jury.raise(1, loud + 1);
            Due.same("the first one is louder than " + loud, jury.parrot(0, 6), 1);
        }
    }

    // "of several the first one in its order", which is not that of the numbers
    private static void ofSeveralTheFirstInItsOrder() {
        ParrotJury jury = Juries.of(12);
        for (int other : new int[] {7, 11, 3, 9}) {
            jury.listen(5, other);
        }
        Due.same("all as loud", jury.parrot(5, 6), 7);
        jury.raise(9, 4);
        jury.raise(3, 4);
        Due.same("of the two loudest", jury.parrot(5, 6), 3);
        jury.raise(11, 4);
        Due.same("of the three loudest", jury.parrot(5, 6), 11);
        jury.listen(5, 11);
        jury.listen(5, 11);
        Due.same("who is behind the others now", jury.parrot(5, 6), 3);
        jury.listen(5, 3);
        Due.same("then the next one", jury.parrot(5, 6), 9);
    }

    // "Throws IndexOutOfBoundsException if there is no such parrot"
    private static void halfNeedsAParrot() {
        ParrotJury jury = Juries.ofWords(1, 2, 3, 4, 5, 6, 7, 8, 9, 10, 11, 2112);
        Due.same("half(11, true, 0)", jury.half(11, true, 0), 12);
        Due.same("half(11, false, 0)", jury.half(11, false, 0), 21);
        Due.same("half(0, true, 0)", jury.half(0, true, 0), 1);
        Due.same("half(10, true, 0)", jury.half(10, true, 0), 11);
        Refused.outsideBeyond(0, 2, Juries::swappers, "half of 3, last", (x, bad) -> x.half(bad, true, 0));
        Refused.outsideBeyond(0, 2, Juries::swappers, "half of 3, first", (x, bad) -> x.half(bad, false, 1));
        Refused.outsideBeyond(0, 11, Juries::ringLater, "half of 12", (x, bad) -> x.half(bad, false, 2));
        Refused.outside(Juries::swappers, "half(3, true, 3)", x -> x.half(3, true, 3));
    }

    // "or what is not 0 to 2"
    private static void halfWhatIs0To2() {
        ParrotJury jury = Juries.ofWords(1234, 5678);
        jury.listen(0, 1);
        jury.pass(1);
        int[] first = {56, 1, 1};
        int[] last = {34, -1, 0};
        for (int what = 0; what < first.length; what++) {
            Due.same("half(0, false, " + what + ")", jury.half(0, false, what), first[what]);
            Due.same("half(0, true, " + what + ")", jury.half(0, true, what), last[what]);
        }
        Refused.outsideBeyond(0, 2, Juries::ringLater, "first half, what", (x, bad) -> x.half(1, false, bad));
        Refused.outsideBeyond(0, 2, Juries::ringLater, "last half, what", (x, bad) -> x.half(1, true, bad));
    }

    // "the half, as 10 * its first syllable + the other one"; "Its first half are the first two syllables"
    private static void halvesOfAWord() {
        int[] words = {0, 1, 9, 10, 99, 100, 101, 900, 1000, 9899, 9900, 9998, 9999};
        for (int word : words) {
            ParrotJury jury = Juries.ofWords(word);
            int thousands = word / 1000;
            int hundreds = word / 100 % 10;
            Due.same("first half of " + word, jury.half(0, false, 0), 10 * thousands + hundreds);
            Due.same("last half of " + word, jury.half(0, true, 0), 10 * (word / 10 % 10) + word % 10);
        }
    }

    // "1 from which parrot it came, -1 from the court"; "over how many parrots it came, 0 from the court"
    private static void theCourtIsNotParrot0() {
        ParrotJury jury = Juries.ofWords(1234, 5678);
        jury.listen(1, 0);
        Due.same("from the court", jury.half(1, true, 1), -1);
        Due.same("over none", jury.half(1, true, 2), 0);
        jury.pass(1);
        Due.same("from parrot 0", jury.half(1, true, 1), 0);
        Due.same("over 1", jury.half(1, true, 2), 1);
        Due.same("the other half from the court still", jury.half(1, false, 1), -1);
        Due.same("halves from the court", jury.count(3), 3);
    }

    // "Throws IndexOutOfBoundsException if there is no such parrot"
    private static void hearsNeedsAParrot() {
        ParrotJury jury = Juries.ring();
        Due.same("hears(0, 0)", jury.hears(0, 0), 1);
        Due.same("hears(11, 0)", jury.hears(11, 0), 0);
        Due.same("hears(10, 0)", jury.hears(10, 0), 11);
        Refused.outsideBeyond(0, 11, Juries::ring, "hears of 12", (x, bad) -> x.hears(bad, 0));
        Refused.outsideBeyond(0, 2, Juries::swappers, "hears of 3", (x, bad) -> x.hears(bad, 0));
        Refused.outside(Juries::swappers, "hears(3, 1)", x -> x.hears(3, 1));
    }

    // "or place", "from 0": each of them from none to 4
    private static void hearsNeedsAPlace() {
        for (int many = 0; many <= 4; many++) {
            int last = many - 1;
            Refused.Made made = () -> Juries.of(6);
            for (int i = 1; i <= many; i++) {
                Refused.Made fewer = made;
                int other = i;
                made = () -> {
                    ParrotJury jury = fewer.make();
                    jury.listen(0, other);
                    jury.listen(1, (other + 1) % 6);
                    return jury;
                };
            }
            ParrotJury jury = made.make();
            for (int place = 0; place < many; place++) {
                Due.same("hears(0, " + place + ") of " + many, jury.hears(0, place), place + 1);
            }
            Refused.outsideBeyond(0, last, made, "hears of " + many + " places", (x, bad) -> x.hears(0, bad));
        }
        Refused.outside(EdgesOfWhatIsThereTest::fourLessOne, "hears(0, 3) behind no more", x -> x.hears(0, 3));
        Due.same("hears(0, 2) behind no more", fourLessOne().hears(0, 2), 4);
    }

    private static ParrotJury fourLessOne() {
        ParrotJury jury = Juries.of(5);
        for (int i = 1; i <= 4; i++) {
            jury.listen(0, i);
        }
        jury.listen(0, 1);
        return jury;
    }

    // "Throws IllegalArgumentException if word is not 0 to 9999"
    private static void votedWordIs0To9999() {
        ParrotJury jury = Juries.ofWords(0, 1, 1, 9998, 9998, 9998, 9999, 9999, 9999, 9999);
        Due.same("votes(0)", jury.votes(0), 1);
        Due.same("votes(1)", jury.votes(1), 2);
        Due.same("votes(9998)", jury.votes(9998), 3);
        Due.same("votes(9999)", jury.votes(9999), 4);
        Refused.illegalBeyond(0, 9999, Juries::ringLater, "votes", (x, bad) -> x.votes(bad));
        Refused.illegalBeyond(0, 9999, ParrotJury::new, "votes without parrots", (x, bad) -> x.votes(bad));
    }

    // "Returns how many parrots say it.": 0 to 12, whole words alone
    private static void votesFromNoneToAll() {
        Due.same("votes without parrots", new ParrotJury().votes(0), 0);
        ParrotJury jury = Juries.of(12);
        Due.same("votes of all", jury.votes(0), 12);
        for (int i = 0; i < 12; i++) {
            jury.whisper(i, 4321, 0);
            Due.same("votes of some " + i, jury.votes(4321), i + 1);
            Due.same("votes of the others " + i, jury.votes(0), 11 - i);
        }
        Due.same("another last syllable", jury.votes(4320), 0);
        Due.same("another first syllable", jury.votes(5321), 0);
    }

    // "-1 without parrots"
    private static void verdictIsMinus1WithoutParrots() {
        Due.same("verdict without parrots", new ParrotJury().verdict(), -1);
        Due.same("verdict of one that says 0", Juries.of(1).verdict(), 0);
        Due.same("verdict of one that says 9999", Juries.ofWords(9999).verdict(), 9999);
    }

    // "the word that the most parrots say": by one
    private static void verdictIsWhatTheMostSay() {
        Due.same("2 against 1", Juries.ofWords(8, 7, 7).verdict(), 7);
        Due.same("1 and 1 and 2", Juries.ofWords(8, 9, 7, 7).verdict(), 7);
        Due.same("5 against 6", Juries.ofWords(8, 8, 8, 8, 8, 7, 7, 7, 7, 7, 7).verdict(), 7);
        Due.same("the last one alone", Juries.ofWords(8, 8, 8, 8, 8, 8, 8, 8, 8, 8, 8, 7).verdict(), 8);
        Due.same("all twelve", Juries.ofWords(8, 8, 8, 8, 8, 8, 8, 8, 8, 8, 8, 8).verdict(), 8);
    }

    // "of several that which the parrot with the smallest number says"
    private static void verdictOfSeveral() {
        Due.same("6 against 6", Juries.ofWords(8, 7, 7, 7, 7, 7, 7, 8, 8, 8, 8, 8).verdict(), 8);
        Due.same("6 against 6, the smaller word first", Juries.ofWords(7, 8, 8, 8, 8, 8, 8, 7, 7, 7, 7, 7).verdict(), 7);
        Due.same("2 and 2 behind 1", Juries.ofWords(9, 5, 4, 4, 5).verdict(), 5);
        Due.same("1 each", Juries.ofWords(3, 2, 1).verdict(), 3);
        Due.same("1 each, with 0 behind 9", Juries.ofWords(9, 0).verdict(), 9);
        Due.same("1 each, with 0 ahead of 9", Juries.ofWords(0, 9).verdict(), 0);
    }

    // "Throws IllegalArgumentException if word is not 0 to 9999"
    private static void leftWordIs0To9999() {
        ParrotJury jury = Juries.ofWords(0, 9999, 9998, 1);
        Due.same("left(0)", jury.left(0), 3);
        Due.same("left(1)", jury.left(1), 3);
        Due.same("left(9998)", jury.left(9998), 3);
        Due.same("left(9999)", jury.left(9999), 3);
        Refused.illegalBeyond(0, 9999, Juries::ringLater, "left", (x, bad) -> x.left(bad));
        Refused.illegalBeyond(0, 9999, ParrotJury::new, "left without parrots", (x, bad) -> x.left(bad));
    }

    // "Returns how many halves of parrots are that half of this word": 0 to 24
    private static void leftFromNoneToAll() {
        Due.same("left without parrots", new ParrotJury().left(0), 0);
        ParrotJury jury = Juries.of(12);
        Due.same("left of all", jury.left(0), 24);
        Due.same("left of none", jury.left(9999), 0);
        jury.whisper(11, 9900, 0);
        Due.same("left of all but one half", jury.left(0), 23);
        Due.same("left of one half", jury.left(9999), 1);
        jury.whisper(11, 9999, 0);
        Due.same("left of all but two halves", jury.left(0), 22);
        Due.same("left of two halves", jury.left(9999), 2);
    }

    // "first and last ones each by itself"
    private static void leftGoesByEachHalf() {
        ParrotJury jury = Juries.ofWords(1234);
        Due.same("left(1234)", jury.left(1234), 2);
        Due.same("left(1200)", jury.left(1200), 1);
        Due.same("left(34)", jury.left(34), 1);
        Due.same("halves in the other place", jury.left(3412), 0);
        Due.same("the first half twice", jury.left(1212), 1);
        Due.same("the last half twice", jury.left(3434), 1);
    }

    // "Throws IndexOutOfBoundsException if what is not 0 to 5"
    private static void countWhatIs0To5() {
        ParrotJury jury = Juries.swappers();
        jury.pass(1);
        int[] due = {1, 3, 3, 4, 0, 2};
        for (int what = 0; what < due.length; what++) {
            Due.same("count(" + what + ")", jury.count(what), due[what]);
        }
        Refused.outsideBeyond(0, 5, Juries::ringLater, "count", (x, bad) -> x.count(bad));
        Refused.outsideBeyond(0, 5, ParrotJury::new, "count without parrots", (x, bad) -> x.count(bad));
    }

    // "2 different words that are said": 0 to 12
    private static void differentWords() {
        Due.same("words without parrots", new ParrotJury().count(2), 0);
        ParrotJury jury = Juries.of(12);
        Due.same("all say the same", jury.count(2), 1);
        for (int i = 0; i < 12; i++) {
            jury.whisper(i, 100 + i, 0);
            Due.same("different words " + i, jury.count(2), Math.min(i + 2, 12));
        }
        jury.whisper(11, 100, 0);
        Due.same("the first and the last one alike", jury.count(2), 11);
    }

    // "3 halves that are from the court": one less with each that is taken
    private static void halvesFromTheCourt() {
        Due.same("from the court without parrots", new ParrotJury().count(3), 0);
        ParrotJury jury = Juries.ofWords(1234, 5678, 5678);
        Due.same("all from the court", jury.count(3), 6);
        jury.listen(0, 1);
        jury.pass(1);
        Due.same("without a first half", jury.count(3), 5);
        jury.listen(1, 0);
        jury.pass(1);
        Due.same("without a last half", jury.count(3), 4);
        jury.whisper(0, 1, 0);
        Due.same("from the court again", jury.count(3), 5);
    }

    // "4 how sure all are, added": 0 to 108
    private static void sureAdded() {
        ParrotJury jury = Juries.of(12);
        Due.same("none is sure", jury.count(4), 0);
        for (int i = 0; i < 12; i++) {
            jury.whisper(i, 0, 9);
            Due.same("sure, added " + i, jury.count(4), 9 * (i + 1));
        }
        jury.whisper(0, 0, 8);
        Due.same("1 less sure", jury.count(4), 107);
    }
}
