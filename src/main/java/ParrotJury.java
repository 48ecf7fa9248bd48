/** A jury of parrots who repeat each other by halves. */
public final class ParrotJury {

    private static final int MOST_PARROTS = 12;
    private static final int MOST_OTHERS = 4;
    private static final int MOST_MEMORY = 9;
    private static final int MOST_LOUD = 5;
    private static final int MOST_WORD = 9999;
    private static final int MOST_SURE = 9;
    private static final int MOST_OVER = 99;
    private static final int MOST_ROUNDS = 200;
    private static final int MOST_ADVISED_ROUNDS = 40;
    private static final int LAST_OF_PARROT = 6;
    private static final int LAST_OF_HALF = 2;
    private static final int LAST_OF_COUNT = 5;
    private static final int HALF_WORDS = 100;
    private static final int COURT = -1;
    private static final int NONE = -1;
    private static final long DIGEST_START = 911L;
    private static final long DIGEST_FACTOR = 31L;

    private final Seats seats;
    private final Talk now;
    // Made once and used again by every look ahead, so that no call makes rows of its own.
    private final Talk would;
    private final Talk before;

    public ParrotJury() {
        seats = new Seats();
        now = new Talk();
        would = new Talk();
        before = new Talk();
    }

    // ---- parrots

    public int come(int memory, int loud) throws IllegalArgumentException, IllegalStateException {
        if (isOutside(memory, 1, MOST_MEMORY)) {
            throw new IllegalArgumentException("memory is not 1 to 9");
        }
        needLoud(loud);
        if (seats.size() >= MOST_PARROTS) {
            throw new IllegalStateException("there are 12 parrots");
        }
        int number = seats.seat(memory, loud);
        now.takeFromCourt(number, 0, 0);
        return number;
    }

    public int listen(int parrot, int other)
            throws IndexOutOfBoundsException, IllegalArgumentException, IllegalStateException {
        needParrot(parrot);
        needParrot(other);
        if (parrot == other) {
            throw new IllegalArgumentException("a parrot does not listen to itself");
        }
        int place = seats.placeOf(parrot, other);
        if (place != NONE) {
            seats.dropOther(parrot, place);
        } else if (seats.listening(parrot) >= MOST_OTHERS) {
            throw new IllegalStateException("the parrot listens to 4");
        } else {
            seats.addOther(parrot, other);
        }
        return seats.listening(parrot);
    }

    public int raise(int parrot, int loud) throws IndexOutOfBoundsException, IllegalArgumentException {
        needParrot(parrot);
        needLoud(loud);
        int was = seats.loud(parrot);
        seats.setLoud(parrot, loud);
        return was;
    }

    public int whisper(int parrot, int word, int sure) throws IndexOutOfBoundsException, IllegalArgumentException {
        needParrot(parrot);
        needWord(word);
        if (isOutside(sure, 0, MOST_SURE)) {
            throw new IllegalArgumentException("sure is not 0 to 9");
        }
        int was = now.word(parrot);
        now.takeFromCourt(parrot, word, sure);
        return was;
    }

    // ---- what is there

    public int parrot(int parrot, int what) throws IndexOutOfBoundsException {
        needParrot(parrot);
        needWhat(what, LAST_OF_PARROT);
        return tellOfParrot(parrot, what);
    }

    public int half(int parrot, boolean isLast, int what) throws IndexOutOfBoundsException {
        needParrot(parrot);
        needWhat(what, LAST_OF_HALF);
        return tellOfHalf(parrot, isLast, what);
    }

    public int hears(int parrot, int index) throws IndexOutOfBoundsException {
        needParrot(parrot);
        if (index < 0 || index >= seats.listening(parrot)) {
            throw new IndexOutOfBoundsException("there is no such place");
        }
        return seats.other(parrot, index);
    }

    public int votes(int word) throws IllegalArgumentException {
        needWord(word);
        return votesIn(now, word);
    }

    public int verdict() {
        int size = seats.size();
        int best = NONE;
        int most = 0;
        for (int parrot = 0; parrot < size; parrot++) {
            int word = now.word(parrot);
            int many = votesIn(now, word);
            if (many > most) {
                most = many;
                best = word;
            }
        }
        return best;
    }

    public int left(int word) throws IllegalArgumentException {
        needWord(word);
        int size = seats.size();
        int many = 0;
        for (int parrot = 0; parrot < size; parrot++) {
            if (now.halves(false).value(parrot) == word / HALF_WORDS) {
                many++;
            }
            if (now.halves(true).value(parrot) == word % HALF_WORDS) {
                many++;
            }
        }
        return many;
    }

    public int count(int what) throws IndexOutOfBoundsException {
        needWhat(what, LAST_OF_COUNT);
        return tellOfJury(what);
    }

    // ---- rounds

    public int pass(int rounds) throws IllegalArgumentException {
        needRounds(rounds, MOST_ROUNDS);
        int taken = now.taken();
        now.goRounds(seats, before, rounds);
        return now.taken() - taken;
    }

    // ---- what would be

    public int agrees() {
        would.copyFrom(now);
        for (int rounds = 0; rounds <= MOST_ROUNDS; rounds++) {
            if (sayTheSame(would)) {
                return rounds;
            }
            would.goRounds(seats, before, 1);
        }
        return NONE;
    }

    public int foresee(int rounds, int parrot) throws IllegalArgumentException, IndexOutOfBoundsException {
        needRounds(rounds, MOST_ROUNDS);
        needParrot(parrot);
        would.copyFrom(now);
        would.goRounds(seats, before, rounds);
        return would.word(parrot);
    }

    public int advise(int word, int rounds) throws IllegalArgumentException {
        needWord(word);
        needRounds(rounds, MOST_ADVISED_ROUNDS);
        int size = seats.size();
        int best = NONE;
        int most = -1;
        for (int parrot = 0; parrot < size; parrot++) {
            int many = votesIfWhispered(parrot, word, rounds);
            if (many > most) {
                most = many;
                best = parrot;
            }
        }
        return best;
    }

    public int source(int parrot) throws IndexOutOfBoundsException {
        needParrot(parrot);
        int found = seats.othersAsSet(parrot);
        // Each turn goes one step further; no way without a repeat is longer than the jury.
        for (int turn = 0; turn < MOST_PARROTS; turn++) {
            found |= seats.othersOfAll(found);
        }
        return found;
    }

    public double mean() {
        int size = seats.size();
        if (size <= 0) {
            return 0.0;
        }
        return (double) sureOfAll() / (double) size;
    }

    public long digest() {
        long sum = DIGEST_START;
        for (int what = 0; what <= LAST_OF_COUNT; what++) {
            sum = mix(sum, tellOfJury(what));
        }
        int size = seats.size();
        for (int parrot = 0; parrot < size; parrot++) {
            sum = mixParrot(sum, parrot);
        }
        return sum;
    }

    // ---- what calls are given

    private static boolean isOutside(int number, int least, int most) {
        return number < least || number > most;
    }

    private void needParrot(int parrot) {
        if (parrot < 0 || parrot >= seats.size()) {
            throw new IndexOutOfBoundsException("there is no such parrot");
        }
    }

    private static void needWhat(int what, int most) {
        if (isOutside(what, 0, most)) {
            throw new IndexOutOfBoundsException("there is no such what");
        }
    }

    private static void needLoud(int loud) {
        if (isOutside(loud, 1, MOST_LOUD)) {
            throw new IllegalArgumentException("loud is not 1 to 5");
        }
    }

    private static void needWord(int word) {
        if (isOutside(word, 0, MOST_WORD)) {
            throw new IllegalArgumentException("word is not 0 to 9999");
        }
    }

    private static void needRounds(int rounds, int most) {
        if (isOutside(rounds, 1, most)) {
            throw new IllegalArgumentException("rounds are too few or too many");
        }
    }

    // ---- what is told

    private int tellOfParrot(int parrot, int what) {
        switch (what) {
            case 0:
                return now.word(parrot);
            case 1:
                return now.sure(parrot);
            case 2:
                return seats.memory(parrot);
            case 3:
                return seats.loud(parrot);
            case 4:
                return seats.listening(parrot);
            case 5:
                return seats.listeners(parrot);
            default:
                return seats.heard(parrot);
        }
    }

    private int tellOfHalf(int parrot, boolean isLast, int what) {
        Halves halves = now.halves(isLast);
        switch (what) {
            case 0:
                return halves.value(parrot);
            case 1:
                return halves.from(parrot);
            default:
                return halves.over(parrot);
        }
    }

    private int tellOfJury(int what) {
        switch (what) {
            case 0:
                return now.round();
            case 1:
                return seats.size();
            case 2:
                return differentWords();
            case 3:
                return halvesFromCourt();
            case 4:
                return sureOfAll();
            default:
                return now.taken();
        }
    }

    private int differentWords() {
        int size = seats.size();
        int many = 0;
        for (int parrot = 0; parrot < size; parrot++) {
            if (isFirstWithItsWord(parrot)) {
                many++;
            }
        }
        return many;
    }

    private boolean isFirstWithItsWord(int parrot) {
        int word = now.word(parrot);
        for (int earlier = 0; earlier < parrot; earlier++) {
            if (now.word(earlier) == word) {
                return false;
            }
        }
        return true;
    }

    private int halvesFromCourt() {
        int size = seats.size();
        int many = 0;
        for (int parrot = 0; parrot < size; parrot++) {
            if (now.halves(false).from(parrot) == COURT) {
                many++;
            }
            if (now.halves(true).from(parrot) == COURT) {
                many++;
            }
        }
        return many;
    }

    private int sureOfAll() {
        int size = seats.size();
        int sum = 0;
        for (int parrot = 0; parrot < size; parrot++) {
            sum += now.sure(parrot);
        }
        return sum;
    }

    private int votesIn(Talk talk, int word) {
        int size = seats.size();
        int many = 0;
        for (int parrot = 0; parrot < size; parrot++) {
            if (talk.word(parrot) == word) {
                many++;
            }
        }
        return many;
    }

    private boolean sayTheSame(Talk talk) {
        int size = seats.size();
        return votesIn(talk, talk.word(0)) == size;
    }

    private static long mix(long sum, int number) {
        return sum * DIGEST_FACTOR + number;
    }

    private long mixParrot(long start, int parrot) {
        long sum = start;
        for (int what = 0; what <= LAST_OF_PARROT; what++) {
            sum = mix(sum, tellOfParrot(parrot, what));
        }
        for (int what = 0; what <= LAST_OF_HALF; what++) {
            sum = mix(sum, tellOfHalf(parrot, false, what));
        }
        for (int what = 0; what <= LAST_OF_HALF; what++) {
            sum = mix(sum, tellOfHalf(parrot, true, what));
        }
        int many = seats.listening(parrot);
        for (int place = 0; place < many; place++) {
            sum = mix(sum, seats.other(parrot, place));
        }
        return sum;
    }

    private int votesIfWhispered(int parrot, int word, int rounds) {
        would.copyFrom(now);
        would.takeFromCourt(parrot, word, MOST_SURE);
        would.goRounds(seats, before, rounds);
        return votesIn(would, word);
    }

    /** Numbers at places. A place outside holds 0 and keeps nothing, so that no index can ever fail. */
    static final class Row {
        private final int[] cells;

        Row(int length) {
            cells = new int[Math.max(length, 0)];
        }

        int at(int place) {
            return place >= 0 && place < cells.length ? cells[place] : 0;
        }

        void put(int place, int number) {
            if (place >= 0 && place < cells.length) {
                cells[place] = number;
            }
        }

        void copyFrom(Row other) {
            System.arraycopy(other.cells, 0, cells, 0, Math.min(other.cells.length, cells.length));
        }
    }

    /** Who came, and who listens to whom: all that no round changes. */
    static final class Seats {
        private int size;
        private final Row memory;
        private final Row loud;
        private final Row listening;
        private final Row others;

        Seats() {
            size = 0;
            memory = new Row(MOST_PARROTS);
            loud = new Row(MOST_PARROTS);
            listening = new Row(MOST_PARROTS);
            others = new Row(MOST_PARROTS * MOST_OTHERS);
        }

        int size() {
            return size;
        }

        int memory(int parrot) {
            return memory.at(parrot);
        }

        int loud(int parrot) {
            return loud.at(parrot);
        }

        void setLoud(int parrot, int number) {
            loud.put(parrot, number);
        }

        int listening(int parrot) {
            return listening.at(parrot);
        }

        int other(int parrot, int place) {
            return others.at(parrot * MOST_OTHERS + place);
        }

        int seat(int itsMemory, int itsLoud) {
            int number = size;
            memory.put(number, itsMemory);
            loud.put(number, itsLoud);
            size++;
            return number;
        }

        int placeOf(int parrot, int other) {
            int many = listening.at(parrot);
            for (int place = 0; place < many; place++) {
                if (other(parrot, place) == other) {
                    return place;
                }
            }
            return NONE;
        }

        void addOther(int parrot, int other) {
            int many = listening.at(parrot);
            others.put(parrot * MOST_OTHERS + many, other);
            listening.put(parrot, many + 1);
        }

        void dropOther(int parrot, int from) {
            int rest = listening.at(parrot) - 1;
            for (int place = from; place < rest; place++) {
                others.put(parrot * MOST_OTHERS + place, other(parrot, place + 1));
            }
            listening.put(parrot, rest);
        }

        int listeners(int parrot) {
            int many = 0;
            for (int listener = 0; listener < size; listener++) {
                if (placeOf(listener, parrot) != NONE) {
                    many++;
                }
            }
            return many;
        }

        int heard(int parrot) {
            int many = listening.at(parrot);
            int heard = NONE;
            int loudest = 0;
            for (int place = 0; place < many; place++) {
                int other = other(parrot, place);
                if (loud.at(other) > loudest) {
                    loudest = loud.at(other);
                    heard = other;
                }
            }
            return heard;
        }

        int othersAsSet(int parrot) {
            int many = listening.at(parrot);
            int set = 0;
            for (int place = 0; place < many; place++) {
                set |= 1 << other(parrot, place);
            }
            return set;
        }

        int othersOfAll(int parrots) {
            int set = 0;
            for (int parrot = 0; parrot < size; parrot++) {
                if ((parrots >> parrot & 1) == 1) {
                    set |= othersAsSet(parrot);
                }
            }
            return set;
        }
    }

    /** The first halves of all parrots, or the last ones, and which way they came. */
    static final class Halves {
        private final Row value;
        private final Row from;
        private final Row over;

        Halves() {
            value = new Row(MOST_PARROTS);
            from = new Row(MOST_PARROTS);
            over = new Row(MOST_PARROTS);
        }

        int value(int parrot) {
            return value.at(parrot);
        }

        int from(int parrot) {
            return from.at(parrot);
        }

        int over(int parrot) {
            return over.at(parrot);
        }

        void takeFromCourt(int parrot, int number) {
            value.put(parrot, number);
            from.put(parrot, COURT);
            over.put(parrot, 0);
        }

        void takeFrom(int parrot, int heard, Halves earlier) {
            value.put(parrot, earlier.value.at(heard));
            from.put(parrot, heard);
            over.put(parrot, Math.min(earlier.over.at(heard) + 1, MOST_OVER));
        }

        void copyFrom(Halves other) {
            value.copyFrom(other.value);
            from.copyFrom(other.from);
            over.copyFrom(other.over);
        }
    }

    /** What is said, how sure, and since when: all that a round changes. */
    static final class Talk {
        private int round;
        private int taken;
        private final Row sure;
        private final Halves firsts;
        private final Halves lasts;

        Talk() {
            round = 0;
            taken = 0;
            sure = new Row(MOST_PARROTS);
            firsts = new Halves();
            lasts = new Halves();
        }

        int round() {
            return round;
        }

        int taken() {
            return taken;
        }

        int sure(int parrot) {
            return sure.at(parrot);
        }

        Halves halves(boolean isLast) {
            return isLast ? lasts : firsts;
        }

        int word(int parrot) {
            return firsts.value(parrot) * HALF_WORDS + lasts.value(parrot);
        }

        void takeFromCourt(int parrot, int word, int itsSure) {
            firsts.takeFromCourt(parrot, word / HALF_WORDS);
            lasts.takeFromCourt(parrot, word % HALF_WORDS);
            sure.put(parrot, itsSure);
        }

        void copyFrom(Talk other) {
            round = other.round;
            taken = other.taken;
            sure.copyFrom(other.sure);
            firsts.copyFrom(other.firsts);
            lasts.copyFrom(other.lasts);
        }

        /** Lets rounds go by; earlier keeps what was ahead of each one, for all go by that. */
        void goRounds(Seats seats, Talk earlier, int rounds) {
            for (int gone = 0; gone < rounds; gone++) {
                earlier.copyFrom(this);
                hearAll(seats, earlier);
                forgetAll(seats);
                round++;
            }
        }

        private void hearAll(Seats seats, Talk earlier) {
            int size = seats.size();
            for (int parrot = 0; parrot < size; parrot++) {
                int heard = seats.heard(parrot);
                if (heard != NONE) {
                    hear(parrot, heard, earlier);
                }
            }
        }

        private void hear(int parrot, int heard, Talk earlier) {
            int itsSure = earlier.sure(parrot);
            if (earlier.word(parrot) == earlier.word(heard)) {
                sure.put(parrot, Math.min(itsSure + 1, MOST_SURE));
            } else if (itsSure > earlier.sure(heard)) {
                sure.put(parrot, itsSure - 1);
            } else {
                boolean takesLast = (parrot & 1) == 1;
                halves(takesLast).takeFrom(parrot, heard, earlier.halves(takesLast));
                sure.put(parrot, 1);
                taken++;
            }
        }

        private void forgetAll(Seats seats) {
            int size = seats.size();
            for (int parrot = 0; parrot < size; parrot++) {
                int span = seats.memory(parrot) + 1;
                if (span > 0 && round % span == 0) {
                    sure.put(parrot, Math.max(sure.at(parrot) - 1, 0));
                }
            }
        }
    }
}
