import java.math.BigInteger;

/** The edges that promises 14 to 19 name: agrees, foresee, advise, source, mean, digest. */
public final class EdgesOfWhatWouldBeTest {
    public static void main(String[] args) {
        agreesIs0IfTheyDo();
        agreesIs0WithoutParrots();
        agreesBehind1();
        agreesBehind200AtMost();
        agreesIsMinus1IfNever();
        agreesChangesNothing();
        foreseenRoundsAre1To200();
        foreseeNeedsAParrot();
        whichComesFirstOfForesee();
        foreseeChangesNothing();
        advisedWordIs0To9999();
        advisedRoundsAre1To40();
        whichComesFirstOfAdvise();
        adviseIsMinus1WithoutParrots();
        adviseOfSeveral();
        adviseThoughNoneSaysIt();
        adviseWith9Sure();
        adviseChangesNothing();
        sourceNeedsAParrot();
        sourceFromNoneToAll();
        sourceWithItself();
        sourceGoesOn();
        meanIs0WithoutParrots();
        meanFromNoneTo9();
        digestStartsWith911();
        digestWrapsAround();
        digestTakesMinus1();
        Due.end("EdgesOfWhatWouldBeTest");
    }

    // "0 if they do": all, the first one and the last one too
    private static void agreesIs0IfTheyDo() {
        Due.same("agrees of one", Juries.ofWords(1234).agrees(), 0);
        Due.same("agrees of two", Juries.ofWords(1234, 1234).agrees(), 0);
        Due.same("agrees of twelve", Juries.of(12).agrees(), 0);
        Due.same("agrees but for the first one", Juries.ofWords(1, 0, 0).agrees(), -1);
        Due.same("agrees but for one between", Juries.ofWords(0, 1, 0).agrees(), -1);
        Due.same("agrees but for the last one", Juries.ofWords(0, 0, 1).agrees(), -1);
        Due.same("agrees but for the last syllable", Juries.ofWords(9999, 9998).agrees(), -1);
    }

    // "(also if there is none)"
    private static void agreesIs0WithoutParrots() {
        ParrotJury jury = new ParrotJury();
        Due.same("agrees without parrots", jury.agrees(), 0);
        jury.pass(200);
        Due.same("agrees without parrots later", jury.agrees(), 0);
    }

    // "behind how many rounds": the first one that is not 0
    private static void agreesBehind1() {
        ParrotJury jury = Juries.ofWords(1122, 2222);
        jury.listen(0, 1);
        Due.same("agrees behind 1", jury.agrees(), 1);
        ParrotJury two = Juries.ofWords(1122, 2222, 1122, 2222, 2222);
        two.listen(0, 2);
        two.listen(2, 4);
        Due.same("agrees behind 2", two.agrees(), 2);
        two.pass(1);
        Due.same("agrees behind 1 then", two.agrees(), 1);
        two.pass(1);
        Due.same("agrees then", two.agrees(), 0);
    }

    /** A jury that was searched for: all say the same behind just that many rounds, 198 to 204. */
    private static ParrotJury agreeingBehind(int rounds) {
        int[] memory = {4, 4, 5, 4, 5, 2, 8, 2, 8, 3, 7, 1};
        int[] hears = {2, 6, 4, 2, 8, 9, 10, 4, 6, 1, 0, 5};
        int[] words = {201, 100, 201, 100, 101, 103, 201, 101, 101, 100, 1, 100};
        int[] sure = {6, 4, 6, 5, 3, 9, 1, 0, 9, 7, 8, 9};
        ParrotJury jury = new ParrotJury();
        for (int i = 0; i < 12; i++) {
            jury.come(memory[i], 1);
        }
        jury.pass(40);
        for (int i = 0; i < 12; i++) {
            jury.listen(i, hears[i]);
            jury.whisper(i, words[i], sure[i]);
        }
        for (int gone = 204; gone > rounds; gone--) {
            jury.pass(1);
        }
        return jury;
    }

    // "at most 200; -1 if not by then"
    private static void agreesBehind200AtMost() {
        for (int rounds = 198; rounds <= 204; rounds++) {
            ParrotJury jury = agreeingBehind(rounds);
            Due.same("agrees, if it is " + rounds, jury.agrees(), rounds <= 200 ? rounds : -1);
            jury.pass(100);
            jury.pass(rounds - 101);
            Due.holds("not alike ahead of the last round", jury.count(2) > 1);
            jury.pass(1);
            Due.same("alike behind it", jury.count(2), 1);
        }
    }

    // "-1 if not by then": never
    private static void agreesIsMinus1IfNever() {
        Due.same("agrees of those who swap", Juries.swappers().agrees(), -1);
        Due.same("agrees when none listens", Juries.ofWords(1, 2).agrees(), -1);
        ParrotJury half = Juries.ofWords(11, 22);
        half.listen(0, 1);
        Due.same("agrees when 0 never takes a last half", half.agrees(), -1);
    }

    // "(nothing is changed)"
    private static void agreesChangesNothing() {
        for (int rounds = 199; rounds <= 201; rounds++) {
            ParrotJury jury = agreeingBehind(rounds);
            ParrotJury twin = agreeingBehind(rounds);
            jury.agrees();
            jury.agrees();
            sameThenAndLater("agrees, " + rounds, jury, twin);
        }
    }

    private static void sameThenAndLater(String told, ParrotJury jury, ParrotJury twin) {
        Due.same("digest behind " + told, jury.digest(), twin.digest());
        Due.same("pass(2) behind " + told, jury.pass(2), twin.pass(2));
        Due.same("digest later behind " + told, jury.digest(), twin.digest());
        Due.same("agrees later behind " + told, jury.agrees(), twin.agrees());
    }

    // "Throws IllegalArgumentException if rounds is not 1 to 200"
    private static void foreseenRoundsAre1To200() {
        ParrotJury jury = Juries.swappers();
        Due.same("foresee(1, 0)", jury.foresee(1, 0), 2211);
        Due.same("foresee(2, 0)", jury.foresee(2, 0), 1111);
        Due.same("foresee(199, 0)", jury.foresee(199, 0), 2211);
        Due.same("foresee(200, 0)", jury.foresee(200, 0), 1111);
        Due.same("its word now", jury.parrot(0, 0), 1111);
        ParrotJury late = agreeingBehind(200);
        int last = 0;
        for (int i = 0; i < 12; i++) {
            Due.same("foresee(200, " + i + ")", late.foresee(200, i), late.foresee(200, 0));
            last += late.foresee(199, i) == late.foresee(200, 0) ? 0 : 1;
        }
        Due.holds("one says another word behind 199", last > 0);
        Refused.illegalBeyond(1, 200, Juries::ringLater, "foresee rounds", (x, bad) -> x.foresee(bad, 5));
    }

    // "Throws IndexOutOfBoundsException if there is no such parrot"
    private static void foreseeNeedsAParrot() {
        ParrotJury jury = Juries.ofWords(0, 1, 2, 3, 4, 5, 6, 7, 8, 9, 10, 11);
        for (int i = 0; i < 12; i++) {
            Due.same("foresee(1, " + i + ")", jury.foresee(1, i), i);
        }
        Refused.outsideBeyond(0, 11, Juries::ringLater, "foresee of 12", (x, bad) -> x.foresee(200, bad));
        Refused.outsideBeyond(0, 2, Juries::swappers, "foresee of 3", (x, bad) -> x.foresee(1, bad));
    }

    // "the one that is named first is thrown": rounds ahead of the parrot
    private static void whichComesFirstOfForesee() {
        Refused.illegalBeyond(1, 200, Juries::swappers, "foresee of parrot 3", (x, bad) -> x.foresee(bad, 3));
        Refused.illegalBeyond(1, 200, Juries::swappers, "foresee of parrot -1", (x, bad) -> x.foresee(bad, -1));
        Refused.illegalBeyond(1, 200, ParrotJury::new, "foresee without parrots", (x, bad) -> x.foresee(bad, 0));
    }

    // "if nothing is done (nothing is changed)"
    private static void foreseeChangesNothing() {
        for (int rounds : new int[] {1, 199, 200}) {
            ParrotJury jury = Juries.ringLater();
            jury.foresee(rounds, 3);
            sameThenAndLater("foresee, " + rounds, jury, Juries.ringLater());
        }
        ParrotJury told = Juries.ringLater();
        int due = told.foresee(5, 6);
        told.agrees();
        told.advise(77, 40);
        Due.same("foresee twice", told.foresee(5, 6), due);
        told.pass(5);
        Due.same("its word behind 5", told.parrot(6, 0), due);
    }

    // "Throws IllegalArgumentException if word is not 0 to 9999"
    private static void advisedWordIs0To9999() {
        ParrotJury least = Juries.ofWords(0, 5555);
        Due.same("advise(0, 1)", least.advise(0, 1), 1);
        Due.same("advise(1, 1)", least.advise(1, 1), 0);
        ParrotJury most = Juries.ofWords(9999, 5555);
        Due.same("advise(9998, 1)", most.advise(9998, 1), 0);
        Due.same("advise(9999, 1)", most.advise(9999, 1), 1);
        Refused.illegalBeyond(0, 9999, Juries::ringLater, "advise a word", (x, bad) -> x.advise(bad, 1));
        Refused.illegalBeyond(0, 9999, Juries::ringLater, "advise a word, 40", (x, bad) -> x.advise(bad, 40));
    }

    /** 1100 had best be whispered to 0 for even rounds; behind odd ones 2 would say 1101, so that 1 is better. */
    private static ParrotJury byTurns() {
        ParrotJury jury = Juries.of(3);
        jury.listen(0, 2);
        jury.listen(2, 0);
        jury.whisper(0, 0, 9);
        jury.whisper(2, 1, 9);
        return jury;
    }

    // "or rounds is not 1 to 40"; "the most parrots say it behind so many rounds"
    private static void advisedRoundsAre1To40() {
        ParrotJury jury = byTurns();
        Due.same("advise(1100, 1)", jury.advise(1100, 1), 1);
        Due.same("advise(1100, 2)", jury.advise(1100, 2), 0);
        Due.same("advise(1100, 39)", jury.advise(1100, 39), 1);
        Due.same("advise(1100, 40)", jury.advise(1100, 40), 0);
        Refused.illegalBeyond(1, 40, Juries::ringLater, "advise rounds", (x, bad) -> x.advise(1234, bad));
    }

    // one exception alone, whichever of both arguments is wrong, also without parrots
    private static void whichComesFirstOfAdvise() {
        Refused.illegal(Juries::swappers, "advise(-1, 0)", x -> x.advise(-1, 0));
        Refused.illegal(Juries::swappers, "advise(10000, 41)", x -> x.advise(10000, 41));
        Refused.illegal(ParrotJury::new, "advise(-1, 1) without parrots", x -> x.advise(-1, 1));
        Refused.illegal(ParrotJury::new, "advise(10000, 1) without parrots", x -> x.advise(10000, 1));
        Refused.illegal(ParrotJury::new, "advise(0, 0) without parrots", x -> x.advise(0, 0));
        Refused.illegal(ParrotJury::new, "advise(0, 41) without parrots", x -> x.advise(0, 41));
    }

    // "-1 without parrots"
    private static void adviseIsMinus1WithoutParrots() {
        Due.same("advise(0, 1) without parrots", new ParrotJury().advise(0, 1), -1);
        Due.same("advise(9999, 40) without parrots", new ParrotJury().advise(9999, 40), -1);
        Due.same("advise(0, 1) of one", Juries.of(1).advise(0, 1), 0);
        Due.same("advise(9999, 40) of one", Juries.of(1).advise(9999, 40), 0);
    }

    // "of several the one with the smallest number"; better by one, in the last place
    private static void adviseOfSeveral() {
        Due.same("advise of twelve as good", Juries.of(12).advise(5500, 40), 0);
        ParrotJury two = Juries.of(12);
        two.listen(2, 7);
        two.listen(4, 11);
        Due.same("7 and 11 are as good", two.advise(5500, 1), 7);
        two.listen(6, 11);
        Due.same("11 is better by one", two.advise(5500, 1), 11);
    }

    // the same if no parrot says the word then: all are as good
    private static void adviseThoughNoneSaysIt() {
        ParrotJury jury = Juries.ofWords(0, 0);
        jury.listen(0, 1);
        jury.listen(1, 0);
        jury.whisper(0, 0, 9);
        jury.whisper(1, 0, 9);
        Due.same("each would give up a half of 1122", jury.advise(1122, 1), 0);
        ParrotJury last = Juries.ofWords(0, 0, 0);
        last.listen(0, 1);
        last.listen(1, 0);
        last.whisper(0, 0, 9);
        last.whisper(1, 0, 9);
        Due.same("but for 2, which listens to none", last.advise(1122, 1), 2);
    }

    // "with 9 sure": against 8 it keeps the word, against 9 it takes; and those who are 9 sure take it too
    private static void adviseWith9Sure() {
        for (int sure = 7; sure <= 9; sure++) {
            ParrotJury jury = Juries.of(2);
            jury.listen(0, 1);
            jury.whisper(1, 2200, sure);
            Due.same("0 hears one that is " + sure + " sure", jury.advise(11, 1), sure == 9 ? 1 : 0);
            ParrotJury heard = Juries.of(3);
            heard.listen(0, 2);
            heard.whisper(0, 3300, sure);
            Due.same("2 is heard by one that is " + sure + " sure", heard.advise(5500, 1), 2);
        }
    }

    // "(nothing is changed)"
    private static void adviseChangesNothing() {
        for (int rounds : new int[] {1, 39, 40}) {
            ParrotJury jury = Juries.ringLater();
            jury.advise(4321, rounds);
            jury.advise(4321, rounds);
            sameThenAndLater("advise, " + rounds, jury, Juries.ringLater());
        }
        ParrotJury turns = byTurns();
        turns.advise(1100, 40);
        sameThenAndLater("advise of three", turns, byTurns());
    }

    // "Throws IndexOutOfBoundsException if there is no such parrot"
    private static void sourceNeedsAParrot() {
        ParrotJury jury = Juries.of(12);
        jury.listen(0, 11);
        jury.listen(11, 10);
        Due.same("source(0)", jury.source(0), 1 << 11 | 1 << 10);
        Due.same("source(11)", jury.source(11), 1 << 10);
        Due.same("source(10)", jury.source(10), 0);
        Refused.outsideBeyond(0, 11, Juries::ringLater, "source of 12", (x, bad) -> x.source(bad));
        Refused.outsideBeyond(0, 2, Juries::swappers, "source of 3", (x, bad) -> x.source(bad));
        Refused.outside(Juries::ringLater, "source(32)", x -> x.source(32));
    }

    // "as a set: the bit with the number of each one is set": none, the lowest bit, the highest one, all
    private static void sourceFromNoneToAll() {
        ParrotJury jury = Juries.of(12);
        Due.same("to none", jury.source(5), 0);
        jury.listen(5, 0);
        Due.same("the lowest bit", jury.source(5), 1);
        jury.listen(5, 11);
        Due.same("the lowest and the highest bit", jury.source(5), 2049);
        jury.listen(5, 0);
        Due.same("the highest bit", jury.source(5), 2048);
        for (int i = 0; i < 12; i++) {
            Due.same("source of " + i + " in the ring", Juries.ring().source(i), 4095);
        }
    }

    // "with itself, if it is heard so"
    private static void sourceWithItself() {
        ParrotJury jury = Juries.of(4);
        jury.listen(1, 2);
        Due.same("one way is without itself", jury.source(1), 4);
        jury.listen(2, 1);
        Due.same("with itself by another one", jury.source(1), 6);
        Due.same("the other one with itself", jury.source(2), 6);
        jury.listen(3, 1);
        Due.same("who is heard by none is without itself", jury.source(3), 6);
        jury.listen(2, 1);
        jury.listen(2, 3);
        Due.same("with itself by two others", jury.source(1), 14);
    }

    // "and to which these listen, and so on": through all of twelve, against and along their numbers
    private static void sourceGoesOn() {
        ParrotJury up = Juries.of(12);
        ParrotJury down = Juries.of(12);
        for (int i = 0; i < 11; i++) {
            up.listen(i, i + 1);
            down.listen(i + 1, i);
        }
        for (int i = 0; i < 12; i++) {
            Due.same("source of " + i + " upwards", up.source(i), 4096 - (2 << i));
            Due.same("source of " + i + " downwards", down.source(i), (1 << i) - 1);
        }
        up.listen(11, 0);
        down.listen(0, 11);
        for (int i = 0; i < 12; i++) {
            Due.same("source of " + i + " round upwards", up.source(i), 4095);
            Due.same("source of " + i + " round downwards", down.source(i), 4095);
        }
    }

    // "0 if there are none"
    private static void meanIs0WithoutParrots() {
        ParrotJury jury = new ParrotJury();
        Due.sameDouble("mean without parrots", jury.mean(), 0.0);
        jury.come(1, 1);
        Due.sameDouble("mean of one that is not sure", jury.mean(), 0.0);
        jury.whisper(0, 0, 1);
        Due.sameDouble("mean of one that is 1 sure", jury.mean(), 1.0);
    }

    // "how sure all parrots are, added, divided by how many they are": 0 to 9, with what is behind the point
    private static void meanFromNoneTo9() {
        ParrotJury jury = Juries.of(12);
        Due.sameDouble("mean of none", jury.mean(), 0.0);
        jury.whisper(11, 0, 1);
        Due.sameDouble("mean of 1 by 12", jury.mean(), 1.0 / 12.0);
        for (int i = 0; i < 12; i++) {
            Due.sameDouble("mean ahead of " + i, jury.mean(), (9.0 * i + 1.0) / 12.0);
            jury.whisper(i, 0, 9);
        }
        Due.sameDouble("mean of all", jury.mean(), 9.0);
        jury.whisper(0, 0, 8);
        Due.sameDouble("mean of 107 by 12", jury.mean(), 107.0 / 12.0);
    }

    // "A number d starts with 911"
    private static void digestStartsWith911() {
        long due = 911L;
        for (int i = 0; i < 6; i++) {
            due *= 31;
        }
        ParrotJury jury = new ParrotJury();
        Due.same("digest without parrots", jury.digest(), due);
        jury.pass(1);
        Due.same("digest in round 1", jury.digest(), due + 31L * 31 * 31 * 31 * 31);
    }

    private static BigInteger digestUnwrapped(ParrotJury jury) {
        BigInteger d = BigInteger.valueOf(911);
        for (int what = 0; what < 6; what++) {
            d = mixed(d, jury.count(what));
        }
        int size = jury.count(1);
        for (int parrot = 0; parrot < size; parrot++) {
            for (int what = 0; what < 7; what++) {
                d = mixed(d, jury.parrot(parrot, what));
            }
            for (int what = 0; what < 3; what++) {
                d = mixed(d, jury.half(parrot, false, what));
            }
            for (int what = 0; what < 3; what++) {
                d = mixed(d, jury.half(parrot, true, what));
            }
            int many = jury.parrot(parrot, 4);
            for (int place = 0; place < many; place++) {
                d = mixed(d, jury.hears(parrot, place));
            }
        }
        return d;
    }

    private static BigInteger mixed(BigInteger d, int x) {
        return d.multiply(BigInteger.valueOf(31)).add(BigInteger.valueOf(x));
    }

    // "which wraps around as a 64-bit integer"
    private static void digestWrapsAround() {
        Refused.Made[] all = {ParrotJury::new, () -> Juries.of(1), () -> Juries.of(2), Juries::swappers,
            Juries::ring, Juries::ringLater};
        for (int i = 0; i < all.length; i++) {
            BigInteger due = digestUnwrapped(all[i].make());
            Due.same("whether it wraps around, " + i, due.bitLength() > 64 ? 1 : 0, i == 0 ? 0 : 1);
            Due.same("digest, wrapped around, " + i, all[i].make().digest(), due.longValue());
        }
    }

    // what is told as -1 is added as -1: the court's halves, and none that is heard
    private static void digestTakesMinus1() {
        ParrotJury jury = new ParrotJury();
        jury.come(1, 1);
        int[] numbers = {0, 1, 1, 2, 0, 0, 0, 0, 1, 1, 0, 0, -1, 0, -1, 0, 0, -1, 0};
        BigInteger due = BigInteger.valueOf(911);
        for (int number : numbers) {
            due = mixed(due, number);
        }
        Due.same("digest of one at first", jury.digest(), due.longValue());
    }
}
