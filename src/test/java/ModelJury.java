import java.util.ArrayList;
import java.util.HashMap;
import java.util.HashSet;
import java.util.List;
import java.util.Map;
import java.util.Set;

/** The document told a second time, with words as texts and parrots as objects, to compare answers with. */
final class ModelJury {
    static final class Bird {
        final int number;
        int memory;
        int loud;
        int sure = 0;
        String word = "0000";
        int[] from = {-1, -1};
        int[] over = {0, 0};
        List<Integer> others = new ArrayList<>();

        Bird(int number, int memory, int loud) {
            this.number = number;
            this.memory = memory;
            this.loud = loud;
        }

        Bird copy() {
            Bird bird = new Bird(number, memory, loud);
            bird.sure = sure;
            bird.word = word;
            bird.from = from.clone();
            bird.over = over.clone();
            bird.others = new ArrayList<>(others);
            return bird;
        }

        String half(int side) {
            return side == 0 ? word.substring(0, 2) : word.substring(2);
        }
    }

    private List<Bird> birds = new ArrayList<>();
    private int round = 0;
    private int taken = 0;

    ModelJury copy() {
        ModelJury jury = new ModelJury();
        jury.birds = copies();
        jury.round = round;
        jury.taken = taken;
        return jury;
    }

    private List<Bird> copies() {
        List<Bird> all = new ArrayList<>();
        for (Bird bird : birds) {
            all.add(bird.copy());
        }
        return all;
    }

    private static String text(int word) {
        return String.format("%04d", word);
    }

    private static void illegalUnless(boolean holds) {
        if (!holds) {
            throw new IllegalArgumentException();
        }
    }

    private static void outsideUnless(boolean holds) {
        if (!holds) {
            throw new IndexOutOfBoundsException();
        }
    }

    private static void nowUnless(boolean holds) {
        if (!holds) {
            throw new IllegalStateException();
        }
    }

    private boolean isThere(int parrot) {
        return 0 <= parrot && parrot < birds.size();
    }

    int come(int memory, int loud) {
        illegalUnless(1 <= memory && memory <= 9 && 1 <= loud && loud <= 5);
        nowUnless(birds.size() < 12);
        birds.add(new Bird(birds.size(), memory, loud));
        return birds.size() - 1;
    }

    int listen(int parrot, int other) {
        outsideUnless(isThere(parrot) && isThere(other));
        illegalUnless(parrot != other);
        List<Integer> others = birds.get(parrot).others;
        if (!others.remove((Integer) other)) {
            nowUnless(others.size() < 4);
            others.add(other);
        }
        return others.size();
    }

    int raise(int parrot, int loud) {
        outsideUnless(isThere(parrot));
        illegalUnless(1 <= loud && loud <= 5);
        int was = birds.get(parrot).loud;
        birds.get(parrot).loud = loud;
        return was;
    }

    int whisper(int parrot, int word, int sure) {
        outsideUnless(isThere(parrot));
        illegalUnless(0 <= word && word <= 9999 && 0 <= sure && sure <= 9);
        Bird bird = birds.get(parrot);
        int was = Integer.parseInt(bird.word);
        bird.word = text(word);
        bird.from = new int[] {-1, -1};
        bird.over = new int[] {0, 0};
        bird.sure = sure;
        return was;
    }

    private static Bird heardBy(Bird bird, List<Bird> all) {
        Bird heard = null;
        for (int other : bird.others) {
            if (heard == null || all.get(other).loud > heard.loud) {
                heard = all.get(other);
            }
        }
        return heard;
    }

    int parrot(int parrot, int what) {
        outsideUnless(isThere(parrot) && 0 <= what && what <= 6);
        Bird bird = birds.get(parrot);
        Bird heard = heardBy(bird, birds);
        int listeners = 0;
        for (Bird listener : birds) {
            listeners += listener.others.contains(parrot) ? 1 : 0;
        }
        return new int[] {Integer.parseInt(bird.word), bird.sure, bird.memory, bird.loud, bird.others.size(), listeners,
            heard == null ? -1 : heard.number}[what];
    }

    int half(int parrot, boolean isLast, int what) {
        outsideUnless(isThere(parrot) && 0 <= what && what <= 2);
        Bird bird = birds.get(parrot);
        int side = isLast ? 1 : 0;
        return new int[] {Integer.parseInt(bird.half(side)), bird.from[side], bird.over[side]}[what];
    }

    int hears(int parrot, int index) {
        outsideUnless(isThere(parrot) && 0 <= index && index < birds.get(parrot).others.size());
        return birds.get(parrot).others.get(index);
    }

    private int sayers(String word) {
        int many = 0;
        for (Bird bird : birds) {
            many += bird.word.equals(word) ? 1 : 0;
        }
        return many;
    }

    int votes(int word) {
        illegalUnless(0 <= word && word <= 9999);
        return sayers(text(word));
    }

    int verdict() {
        Map<String, Integer> votes = new HashMap<>();
        int most = 0;
        for (Bird bird : birds) {
            most = Math.max(most, votes.merge(bird.word, 1, Integer::sum));
        }
        for (Bird bird : birds) {
            if (votes.get(bird.word) == most) {
                return Integer.parseInt(bird.word);
            }
        }
        return -1;
    }

    int left(int word) {
        illegalUnless(0 <= word && word <= 9999);
        int many = 0;
        for (Bird bird : birds) {
            many += text(word).startsWith(bird.half(0)) ? 1 : 0;
            many += text(word).endsWith(bird.half(1)) ? 1 : 0;
        }
        return many;
    }

    int count(int what) {
        outsideUnless(0 <= what && what <= 5);
        Set<String> words = new HashSet<>();
        int fromCourt = 0;
        int sure = 0;
        for (Bird bird : birds) {
            words.add(bird.word);
            fromCourt += (bird.from[0] < 0 ? 1 : 0) + (bird.from[1] < 0 ? 1 : 0);
            sure += bird.sure;
        }
        return new int[] {round, birds.size(), words.size(), fromCourt, sure, taken}[what];
    }

    private void goRound() {
        List<Bird> ahead = copies();
        for (Bird bird : birds) {
            Bird self = ahead.get(bird.number);
            Bird heard = heardBy(self, ahead);
            if (heard == null) {
                continue;
            }
            if (self.word.equals(heard.word)) {
                bird.sure = self.sure == 9 ? 9 : self.sure + 1;
            } else if (self.sure > heard.sure) {
                bird.sure = self.sure - 1;
            } else {
                int side = bird.number % 2;
                bird.word = side == 0 ? heard.half(0) + self.half(1) : self.half(0) + heard.half(1);
                bird.from[side] = heard.number;
                bird.over[side] = heard.over[side] == 99 ? 99 : heard.over[side] + 1;
                bird.sure = 1;
                taken++;
            }
        }
        for (Bird bird : birds) {
            if (round % (bird.memory + 1) == 0 && bird.sure > 0) {
                bird.sure--;
            }
        }
        round++;
    }

    int pass(int rounds) {
        illegalUnless(1 <= rounds && rounds <= 200);
        int before = taken;
        for (int i = 0; i < rounds; i++) {
            goRound();
        }
        return taken - before;
    }

    int agrees() {
        ModelJury then = copy();
        for (int rounds = 0; rounds <= 200; rounds++) {
            if (then.count(2) <= 1) {
                return rounds;
            }
            then.goRound();
        }
        return -1;
    }

    int foresee(int rounds, int parrot) {
        illegalUnless(1 <= rounds && rounds <= 200);
        outsideUnless(isThere(parrot));
        ModelJury then = copy();
        then.pass(rounds);
        return then.parrot(parrot, 0);
    }

    int advise(int word, int rounds) {
        illegalUnless(0 <= word && word <= 9999 && 1 <= rounds && rounds <= 40);
        int best = -1;
        int most = 0;
        for (Bird bird : birds) {
            ModelJury then = copy();
            then.whisper(bird.number, word, 9);
            then.pass(rounds);
            if (best < 0 || then.votes(word) > most) {
                best = bird.number;
                most = then.votes(word);
            }
        }
        return best;
    }

    int source(int parrot) {
        outsideUnless(isThere(parrot));
        Set<Integer> found = new HashSet<>();
        follow(parrot, found);
        int set = 0;
        for (int other : found) {
            set += 1 << other;
        }
        return set;
    }

    private void follow(int parrot, Set<Integer> found) {
        for (int other : birds.get(parrot).others) {
            if (found.add(other)) {
                follow(other, found);
            }
        }
    }

    double mean() {
        return birds.isEmpty() ? 0 : (double) count(4) / birds.size();
    }

    long digest() {
        List<Integer> numbers = new ArrayList<>();
        for (int what = 0; what < 6; what++) {
            numbers.add(count(what));
        }
        for (Bird bird : birds) {
            for (int what = 0; what < 7; what++) {
                numbers.add(parrot(bird.number, what));
            }
            for (int what = 0; what < 6; what++) {
                numbers.add(half(bird.number, what > 2, what % 3));
            }
            numbers.addAll(bird.others);
        }
        long d = 911;
        for (int number : numbers) {
            d = d * 31 + number;
        }
        return d;
    }
}
