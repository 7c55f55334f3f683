import java.math.BigInteger;
import java.util.ArrayList;
import java.util.List;
import java.util.Random;

/**
 * Promises held against one another: what is FORETOLD is done by the class's own ACTS on an image of the ROLL, and
 * both must come to the same. So no second writing of the document is needed, only what its words say of two calls.
 */
public final class TapeEndAgree {
    private static final int NONE = -1000000, STATE = -1000002, KIND = -1000013;
    private static final int ROLLS = 2000;
    private static final int KEPT = 0;

    /** The ROLL that is looked at: its text, what was done on it, and what its text says. */
    private static String text = "";
    private static long wandered = 0;
    private static int places = 0;
    private static int step = 0;
    private static int seekers = 0;
    private static boolean ridged = false;

    private static int asked = 0;
    private static int wrong = 0;

    /** A fraction as it comes, compared by multiplying out. */
    private record Fraction(BigInteger above, BigInteger below) {
        static Fraction of(long above, long below) {
            return new Fraction(BigInteger.valueOf(above), BigInteger.valueOf(below));
        }

        Fraction plus(Fraction o) {
            return new Fraction(above.multiply(o.below).add(o.above.multiply(below)), below.multiply(o.below));
        }

        Fraction times(long n) {
            return new Fraction(above.multiply(BigInteger.valueOf(n)), below);
        }

        Fraction fromOne() {
            return new Fraction(below.subtract(above), below);
        }

        int compare(Fraction o) {
            return above.multiply(o.below).compareTo(o.above.multiply(below));
        }
    }

    private static void tellWrong(String what, Object got, Object want) {
        wrong++;
        System.out.println(text + " (" + wandered + "): " + what + ": " + got + ", by the other promise " + want);
    }

    private static void due(String what, long got, long want) {
        asked++;
        if (got != want) {
            tellWrong(what, got, want);
        }
    }

    private static void dueEqual(String what, Fraction got, Fraction want) {
        asked++;
        boolean lowest = got.above.gcd(got.below).equals(BigInteger.ONE);
        if (got.compare(want) != 0 || !lowest) {
            tellWrong(what, got, want);
        }
    }

    // ---- rolls

    private static int upTo(Random random, int least, int most) {
        return least + random.nextInt(most - least + 1);
    }

    private static void tell(Random random) {
        places = upTo(random, 4, random.nextBoolean() ? 6 : 12);
        step = upTo(random, 0, 9);
        seekers = upTo(random, 1, 4);
        int ridges = random.nextBoolean() ? upTo(random, 1, 4) : 0;
        ridged = ridges > 0;
        StringBuilder told = new StringBuilder("o" + places + "," + step + "," + upTo(random, 0, 20) + ",");
        told.append(upTo(random, 0, 9)).append(";p");
        List<Integer> smooth = new ArrayList<>();
        for (int i = 0; i < places; i++) {
            told.append(i > 0 ? "," : "").append(upTo(random, 1, 9));
            smooth.add(i);
        }
        told.append(';');
        for (int i = 0; i < ridges; i++) {
            int place = smooth.remove(random.nextInt(smooth.size()));
            told.append("r" + place + "," + upTo(random, 1, 9) + ";");
        }
        for (int i = 0; i < seekers; i++) {
            told.append("ublmt".charAt(random.nextInt(5)));
            told.append(upTo(random, 0, 10) + "," + upTo(random, 0, 10) + ";");
        }
        text = told.toString();
        wandered = random.nextLong();
    }

    /** A new object for each question, since an object is promised for 512 calls only; an image of it is kept. */
    private static TapeEnd made() {
        TapeEnd x = new TapeEnd();
        for (int i = 0; i < text.length(); i++) {
            x.feed(text.charAt(i));
        }
        due("roll()", x.roll(), places);
        wander(x, new Random(wandered));
        due("image()", x.image(KEPT), 1);
        return x;
    }

    /** Some ACTS, so that what is asked begins anywhere; with at most 4 touches, so that 6 more have room. */
    private static void wander(TapeEnd x, Random random) {
        for (int k = upTo(random, 0, 4); k > 0; k--) {
            x.touch(random.nextInt(seekers), random.nextInt(2));
            switch (random.nextInt(4)) {
                case 0 -> x.go(upTo(random, 1, 12));
                case 1 -> x.over();
                case 2 -> x.seek(random.nextInt(seekers));
                default -> x.fold(random.nextInt(places));
            }
        }
    }

    private static long together(TapeEnd x) {
        long sum = 0;
        for (int i = 0; i <= places; i++) {
            sum += x.likelihood(i);
        }
        return sum;
    }

    private static String state(TapeEnd x) {
        StringBuilder seen = new StringBuilder();
        for (int what = 0; what <= 5; what++) {
            seen.append(x.nail(what)).append(' ');
        }
        for (int i = 0; i <= places; i++) {
            seen.append(x.likelihood(i)).append(' ');
        }
        return seen.toString();
    }

    private static long tens(int n) {
        return n == 0 ? 1 : 10 * tens(n - 1);
    }

    /** The nail at a PLACE and a WAY; LIKELIHOODS stay as they are. */
    private static void stand(TapeEnd x, int place, int way) {
        if (x.nail(1) != way) {
            x.over();
        }
        for (int at = x.nail(0); at != place;) {
            at = x.go(1);
        }
    }

    private static Fraction mean(TapeEnd x, int seeker, int place, int way, int n) {
        return Fraction.of(x.mean(seeker, place, way, n, 0), x.mean(seeker, place, way, n, 1));
    }

    private static Fraction rule(TapeEnd x, int seeker, int row, int n, int m) {
        return Fraction.of(x.rule(seeker, row, n, m, 0), x.rule(seeker, row, n, m, 1));
    }

    // ---- one promise by another

    private static void likelyByLikelihoods() {
        TapeEnd x = made();
        long all = together(x);
        int surest = 0;
        for (int i = 0; i <= places; i++) {
            dueEqual("likely " + i, Fraction.of(x.likely(i, 0), x.likely(i, 1)), Fraction.of(x.likelihood(i), all));
            if (i < places && x.likelihood(i) > x.likelihood(surest)) {
                surest = i;
            }
        }
        due("surest", x.surest(), surest);
    }

    /** A touch leaves as much of ten times all LIKELIHOODS as it was likely; it can not be if that is none. */
    private static void feltByTouches(int seeker) {
        TapeEnd x = made();
        String ahead = state(x);
        int acts = x.count(4);
        long all = together(x);
        Fraction felt = Fraction.of(x.felt(seeker, 0), x.felt(seeker, 1));
        for (int k = 1; k >= 0; k--) {
            Fraction so = k == 1 ? felt : felt.fromOne();
            int answer = x.touch(seeker, k);
            due("touch can be", answer == STATE ? 0 : 1, so.above.signum());
            if (answer != STATE) {
                dueEqual("felt " + k, felt, k == 1 ? part(x, all) : part(x, all).fromOne());
                due("nail(4)", x.nail(4), k);
                due("undo", x.undo(), acts);
            }
            due("as ahead of the touch", state(x).equals(ahead) ? 1 : 0, 1);
        }
    }

    private static Fraction part(TapeEnd x, long all) {
        return Fraction.of(together(x), 10 * all);
    }

    private static void seekByNextPlace(int seeker) {
        TapeEnd x = made();
        int next = x.seeker(seeker, 3);
        int place = x.nail(0);
        int seconds = x.nail(2);
        due("seek", x.seek(seeker), next);
        int there = Math.floorMod(next - place, places);
        due("its seconds", x.nail(2) - seconds, (long) step * Math.min(there, places - there));
    }

    /** A round as words of a RULE: each touch but the first costs STEP and 1, as likely as nothing was felt yet. */
    private static void meanByRule(int seeker, int place, int way) {
        if (places > 6) {
            return;
        }
        TapeEnd x = made();
        Fraction foretold = mean(x, seeker, place, way, 1);
        stand(x, place, way);
        x.row(0, 0, 1);
        Fraction sum = Fraction.of(1, 1);
        for (int m = 1; m < places; m++) {
            sum = sum.plus(rule(x, seeker, 0, 1, m).fromOne().times(step + 1));
        }
        dueEqual("mean " + place + " " + way, foretold, sum);
    }

    private static void beginByMean(int seeker, int rounds) {
        TapeEnd x = made();
        int best = 0;
        for (int k = 1; k < 2 * places; k++) {
            Fraction least = mean(x, seeker, best / 2, 1 - 2 * (best % 2), rounds);
            if (mean(x, seeker, k / 2, 1 - 2 * (k % 2), rounds).compare(least) < 0) {
                best = k;
            }
        }
        due("begin " + rounds, x.begin(seeker, rounds), best);
    }

    private static void paysByMean(int seeker, int f) {
        TapeEnd x = made();
        Fraction saved = mean(x, seeker, 0, 1, 1).plus(Fraction.of(-1, 1));
        int fewest = NONE;
        for (int n = 99; n >= 0; n--) {
            if (saved.times(n).compare(Fraction.of(f, 1)) >= 0) {
                fewest = n;
            }
        }
        due("pays " + f, x.pays(seeker, f), fewest);
    }

    /** Without ridges the rounds of NO END can be gone, as many as there is room for in 10 touches. */
    private static void noEndByRounds(int seeker, int way, int a) {
        if (ridged) {
            return;
        }
        TapeEnd x = made();
        int foretold = x.noEnd(seeker, way, a);
        stand(x, 0, way);
        int room = (10 - x.nail(3)) / places;
        for (int rounds = 0; rounds <= room; rounds++) {
            Fraction none = Fraction.of(x.likely(places, 0), x.likely(places, 1));
            if (none.fromOne().times(100).compare(Fraction.of(a, 1)) <= 0) {
                due("noEnd " + way + " " + a, foretold, rounds);
                return;
            }
            for (int k = 0; k < places && rounds < room; k++) {
                if (x.touch(seeker, 0) == STATE) {
                    return;
                }
                x.go(1);
            }
        }
        due("noEnd not yet " + way + " " + a, foretold == NONE || foretold > room ? 1 : 0, 1);
    }

    /** SECONDS are those of the same acts; without ridges what is not felt is what is left of all LIKELIHOODS. */
    private static void ruleByActs(int seeker, Random random) {
        TapeEnd x = made();
        int n = upTo(random, 1, 8);
        int m = upTo(random, 1, 6);
        int[] words = new int[n];
        x.row(1, random.nextInt(3), n);
        for (int i = 0; i < n; i++) {
            words[i] = x.set(1, i, random.nextInt(4));
        }
        Fraction foretold = rule(x, seeker, 1, n, m);
        long takes = x.rule(seeker, 1, n, m, 2);
        long all = together(x);
        int seconds = x.nail(2);
        for (int k = 0; k < m; k++) {
            if (k > 0) {
                follow(x, words[(k - 1) % n]);
            }
            if (x.touch(seeker, 0) == STATE) {
                dueEqual("rule, surely felt", foretold, Fraction.of(1, 1));
                return;
            }
        }
        due("rule's seconds", takes, x.nail(2) - seconds);
        if (!ridged) {
            dueEqual("rule", foretold, Fraction.of(together(x), all * tens(m)).fromOne());
        }
    }

    private static void follow(TapeEnd x, int word) {
        if (word == 1) {
            x.over();
        } else if (word != 3) {
            x.go(word == 0 ? 1 : 2);
        }
    }

    /** A way that one of them goes, at times spoilt: it is whose can go it by acts (where each touch can be). */
    private static void whoseByActs(Random random) {
        TapeEnd x = made();
        int way = x.nail(1);
        int n = upTo(random, 1, 6);
        int model = random.nextInt(seekers);
        int[] items = new int[n];
        stand(x, random.nextInt(places), way);
        for (int k = 0; k < n; k++) {
            items[k] = random.nextInt(8) == 0 ? random.nextInt(places) : x.nail(0);
            x.touch(model, 0);
            x.seek(model);
        }
        x.restore(KEPT);
        x.row(2, random.nextInt(3), n + 1);
        for (int k = 0; k < n; k++) {
            x.set(2, k + 1, items[k]);
        }
        int bits = x.whose(2, 1, n);
        due("no seeker that is none", bits >> seekers, 0);
        for (int seeker = 0; seeker < seekers; seeker++) {
            x.restore(KEPT);
            stand(x, items[0], way);
            int goes = goesByActs(x, seeker, items);
            if (goes != NONE) {
                due("whose " + seeker, bits >> seeker & 1, goes);
            }
        }
    }

    private static int goesByActs(TapeEnd x, int seeker, int[] items) {
        for (int k = 1; k < items.length; k++) {
            if (x.touch(seeker, 0) == STATE) {
                return NONE;
            }
            if (x.seek(seeker) != items[k]) {
                return 0;
            }
        }
        return 1;
    }

    private static void asksByKind(int seeker) {
        TapeEnd x = made();
        int kind = x.kind(seeker);
        int with = x.seeker(seeker, 0);
        int against = x.seeker(seeker, 1);
        int round = seeker + against;
        int[] marks = {0, round, 2 * round, round - 1000, seeker - (with - 100), seeker - 2 * (with - 100)};
        int[] sizes = {0, with + marks[1], -(with + marks[2]), with + marks[3], with - 100, 2 * (with - 100)};
        int[] nearest = {0, 0, 1, 1, 0, 4};
        due("SIZE of kind " + kind, x.ask(seeker, 0), sizes[kind]);
        due("MARK of kind " + kind, x.ask(seeker, 1), marks[kind]);
        for (int k = 0; k <= 5; k++) {
            boolean is = k == 0 || k == kind || k == nearest[kind];
            due("as " + k, x.as(seeker, k), is ? seeker : KIND);
            due("status", x.status(), is ? 0 : 3);
        }
        due("FEEL", x.seeker(seeker, 2), kind == 3 ? Math.max(with, against) : x.nail(1) > 0 ? with : against);
    }

    /** Behind the same acts: undone one by one, and restored, the ROLL is the one that was kept. */
    private static void undoByRestore(Random random) {
        TapeEnd x = made();
        String kept = state(x);
        int acts = x.count(4);
        wander(x, random);
        while (x.count(4) > acts) {
            x.undo();
        }
        due("undone", state(x).equals(kept) ? 1 : 0, 1);
        wander(x, random);
        x.restore(KEPT);
        due("restored", state(x).equals(kept) ? 1 : 0, 1);
        due("undo", x.undo(), STATE);
    }

    private static void lostByWidth() {
        text = "a splinter";
        for (int w = 1; w <= 19; w++) {
            for (int s = 1; s <= 9; s++) {
                for (int side = 0; side <= 1; side++) {
                    TapeEnd x = new TapeEnd();
                    int sum = 0;
                    for (int n = 0; x.width(w, s, side, n) % 20 != 0; n++) {
                        sum += 20 - x.width(w, s, side, n);
                    }
                    due("lost " + w + " " + s + " " + side, x.lost(w, s, side), sum);
                }
            }
        }
    }

    public static void main(String[] args) {
        Random random = new Random(20261118);
        for (int k = 0; k < ROLLS; k++) {
            tell(random);
            int seeker = random.nextInt(seekers);
            int way = random.nextBoolean() ? 1 : -1;
            likelyByLikelihoods();
            feltByTouches(seeker);
            seekByNextPlace(seeker);
            meanByRule(seeker, random.nextInt(places), way);
            beginByMean(seeker, upTo(random, 1, 3));
            paysByMean(seeker, upTo(random, 0, 99));
            noEndByRounds(seeker, way, random.nextBoolean() ? upTo(random, 0, 99) : upTo(random, 80, 99));
            ruleByActs(seeker, random);
            whoseByActs(random);
            asksByKind(seeker);
            undoByRestore(random);
        }
        lostByWidth();
        System.out.println(wrong == 0 ? asked + " answers agree" : wrong + " answers do not agree");
        if (wrong != 0) {
            System.exit(1);
        }
    }
}
