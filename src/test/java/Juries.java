/** Juries to begin with. */
final class Juries {
    private Juries() {
    }

    /** All with memory 9, loud 1. */
    static ParrotJury of(int many) {
        return ofMemory(many, 9);
    }

    static ParrotJury ofMemory(int many, int memory) {
        ParrotJury jury = new ParrotJury();
        for (int i = 0; i < many; i++) {
            jury.come(memory, 1);
        }
        return jury;
    }

    static ParrotJury ofWords(int... words) {
        ParrotJury jury = of(words.length);
        for (int i = 0; i < words.length; i++) {
            jury.whisper(i, words[i], 0);
        }
        return jury;
    }

    /** 0 and 2 take each other's first half in each round, for ever; 1 stands by. */
    static ParrotJury swappers() {
        ParrotJury jury = of(3);
        jury.listen(0, 2);
        jury.listen(2, 0);
        jury.whisper(0, 1111, 0);
        jury.whisper(2, 2222, 0);
        return jury;
    }

    /** Twelve, all apart in memory, loudness, word and being sure; each listens to two, 0 and 11 to four. */
    static ParrotJury ring() {
        ParrotJury jury = new ParrotJury();
        for (int i = 0; i < 12; i++) {
            jury.come(i % 9 + 1, i % 5 + 1);
            jury.whisper(i, i * 811, i % 10);
        }
        for (int i = 0; i < 12; i++) {
            jury.listen(i, (i + 1) % 12);
            jury.listen(i, (i + 5) % 12);
        }
        jury.listen(0, 7);
        jury.listen(0, 3);
        jury.listen(11, 2);
        jury.listen(11, 9);
        return jury;
    }

    /** The ring when words have gone round for a while. */
    static ParrotJury ringLater() {
        ParrotJury jury = ring();
        jury.pass(7);
        return jury;
    }
}
