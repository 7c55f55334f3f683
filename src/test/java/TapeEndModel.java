import java.math.BigInteger;
import java.util.ArrayDeque;
import java.util.ArrayList;
import java.util.Arrays;
import java.util.Deque;
import java.util.HashMap;
import java.util.List;
import java.util.Map;
import java.util.Random;

/**
 * Many runs of calls by fixed seeds, on the class and on a second writing of the document: plain and slow,
 * with LIKELIHOODS worked out anew from all touches and fractions of any size. A throw counts as wrong, too.
 */
public final class TapeEndModel {
    private static final int NONE = -1000000, BAD = -1000001, STATE = -1000002, FULL = -1000003;
    private static final int RUNS = 700, CALLS = 512;

    private record Fraction(BigInteger above, BigInteger below) {
        static Fraction of(long above, long below) {
            return of(BigInteger.valueOf(above), BigInteger.valueOf(below));
        }

        static Fraction of(BigInteger above, BigInteger below) {
            BigInteger shared = above.gcd(below);
            return new Fraction(above.divide(shared), below.divide(shared));
        }

        Fraction plus(Fraction o) {
            return of(above.multiply(o.below).add(o.above.multiply(below)), below.multiply(o.below));
        }

        Fraction times(Fraction o) {
            return of(above.multiply(o.above), below.multiply(o.below));
        }

        Fraction less(Fraction o) {
            return plus(new Fraction(o.above.negate(), o.below));
        }

        int compare(Fraction o) {
            return above.multiply(o.below).compareTo(o.above.multiply(below));
        }

        long part(int what) {
            return (what == 0 ? above : below).longValueExact();
        }
    }

    private record One(char sort, int with, int against, int number) {
        int feel(int way) {
            return sort == 'l' ? Math.max(with, against) : way > 0 ? with : against;
        }

        int kind() {
            return 1 + "ublmt".indexOf(sort);
        }
    }

    private record Told(int places, int step, int over, int missing, int[] weights, Map<Integer, Integer> ridges,
            List<One> seekers) {
    }

    private record Touched(int place, int feel, boolean felt) {
    }

    private record Now(int place, int way, int seconds, List<Touched> touches, int tab) {
        Now touched(Touched t) {
            List<Touched> more = new ArrayList<>(touches);
            more.add(t);
            return new Now(place, way, seconds + 1, more, tab);
        }

        Now at(int other, int more) {
            return new Now(other, way, seconds + more, touches, tab);
        }
    }

    private static final class Fault extends RuntimeException {
        private static final long serialVersionUID = 1L;
        final int number;
        final int at;

        Fault(int number, int at) {
            this.number = number;
            this.at = at;
        }
    }

    /** Reads a text by its TOKENS, all of them cut beforehand. */
    private static final class Text {
        private record Token(char sort, int number, int at) {
        }

        private final List<Token> tokens = new ArrayList<>();
        private int next = 0;

        Text(String bytes) {
            int i = 0;
            while (i < bytes.length()) {
                char c = bytes.charAt(i);
                int end = i + 1;
                if (c >= '0' && c <= '9') {
                    while (end < bytes.length() && bytes.charAt(end) >= '0' && bytes.charAt(end) <= '9') {
                        end++;
                    }
                    boolean some = end - i <= 2;
                    tokens.add(new Token(some ? '#' : '?', some ? Integer.parseInt(bytes.substring(i, end)) : 0, i));
                } else {
                    tokens.add(new Token(c >= 'a' && c <= 'z' || c == ',' || c == ';' ? c : '?', 0, i));
                }
                i = end;
            }
            tokens.add(new Token('.', 0, bytes.length()));
        }

        private char peek() {
            return tokens.get(next).sort;
        }

        private int at() {
            return tokens.get(next).at;
        }

        private void sign(char c) {
            if (peek() != c) {
                throw new Fault(1, at());
            }
            next++;
        }

        private int number(int least, int most) {
            Token t = tokens.get(next);
            sign('#');
            if (t.number < least || t.number > most) {
                throw new Fault(2, t.at);
            }
            return t.number;
        }

        Told told() {
            sign('o');
            int places = number(4, 12);
            sign(',');
            int step = number(0, 9);
            sign(',');
            int over = number(0, 20);
            sign(',');
            int missing = number(0, 9);
            sign(';');
            sign('p');
            int[] weights = new int[places];
            for (int i = 0; i < places; i++) {
                weights[i] = number(1, 9);
                sign(i + 1 < places ? ',' : ';');
            }
            Map<Integer, Integer> ridges = new HashMap<>();
            while (peek() == 'r') {
                if (ridges.size() == 4) {
                    throw new Fault(3, at());
                }
                next++;
                int at = at();
                int place = number(0, places - 1);
                if (ridges.containsKey(place)) {
                    throw new Fault(2, at);
                }
                sign(',');
                ridges.put(place, number(1, 9));
                sign(';');
            }
            List<One> seekers = new ArrayList<>();
            while ("ublmt".indexOf(peek()) >= 0) {
                if (seekers.size() == 4) {
                    throw new Fault(3, at());
                }
                char sort = peek();
                next++;
                int with = number(0, 10);
                sign(',');
                seekers.add(new One(sort, with, number(0, 10), seekers.size()));
                sign(';');
            }
            sign('.');
            return new Told(places, step, over, missing, weights, ridges, seekers);
        }
    }

    private static final class Model {
        private final int[] lanes = new int[8];
        private final int[][] rows = new int[8][];
        private String tape = "";
        private Told told = null;
        private Now now = null;
        private final Deque<Now> past = new ArrayDeque<>();
        private final Told[] imageTold = new Told[2];
        private final Now[] imageNow = new Now[2];
        private List<Integer> trace = new ArrayList<>();
        private int fault = 0;
        private int status = 0;

        private long found(int number) {
            status = number;
            return -1000010 - number;
        }

        private long well(long answer) {
            status = 0;
            return answer;
        }

        private boolean row(int r) {
            return r >= 0 && r < 8;
        }

        private One one(int s) {
            return told != null && s >= 0 && s < told.seekers.size() ? told.seekers.get(s) : null;
        }

        private int turn(int place) {
            return ((place % told.places) + told.places) % told.places;
        }

        private BigInteger likelihood(Now n, int end) {
            BigInteger l = BigInteger.valueOf(end == told.places ? told.missing : told.weights[end]);
            for (Touched t : n.touches) {
                int by = t.place == end ? t.feel : told.ridges.getOrDefault(t.place, 0);
                l = l.multiply(BigInteger.valueOf(t.felt ? by : 10 - by));
            }
            return l;
        }

        private BigInteger all(Now n) {
            BigInteger sum = BigInteger.ZERO;
            for (int i = 0; i <= told.places; i++) {
                sum = sum.add(likelihood(n, i));
            }
            return sum;
        }

        private Fraction likely(Now n, int end) {
            return Fraction.of(likelihood(n, end), all(n));
        }

        private int greatest(Now n, int but) {
            int best = -1;
            for (int i = told.places - 1; i >= 0; i--) {
                if (i != but && (best < 0 || likelihood(n, i).compareTo(likelihood(n, best)) >= 0)) {
                    best = i;
                }
            }
            return best;
        }

        private int nextPlace(One o, Now n) {
            boolean felt = !n.touches.isEmpty() && n.touches.get(n.touches.size() - 1).felt;
            if (o.sort == 'u' || o.sort == 'l' || o.sort == 'b' && !felt) {
                return turn(n.place + n.way);
            }
            if (o.sort == 'b') {
                return turn(n.place - n.way);
            }
            if (o.sort == 't' && n.tab != NONE && n.tab != n.place) {
                return n.tab;
            }
            return greatest(n, n.place);
        }

        private void act(Now next) {
            past.addLast(now);
            if (past.size() > 24) {
                past.removeFirst();
            }
            now = next;
        }

        private long touch(int s, int felt) {
            One o = one(s);
            if (o == null || felt < 0 || felt > 1) {
                return BAD;
            }
            Now next = now.touched(new Touched(now.place, o.feel(now.way), felt == 1));
            if (all(next).signum() == 0) {
                return STATE;
            }
            if (now.touches.size() == 10) {
                return FULL;
            }
            act(next);
            return now.touches.size();
        }

        /** By where the end is, touch for touch. */
        private Fraction mean(One o, int place, int way, int n) {
            Fraction sum = Fraction.of(0, 1);
            Fraction feel = Fraction.of(o.feel(way), 10);
            for (int end = 0; end <= told.places; end++) {
                Fraction seeking = Fraction.of(1, 1);
                Fraction mean = Fraction.of(0, 1);
                int last = n * told.places;
                for (int t = 1; t <= last; t++) {
                    int here = turn(place + way * (t - 1));
                    Fraction seconds = Fraction.of(t + (t - 1) * told.step, 1);
                    Fraction stops = t == last ? seeking : here == end ? seeking.times(feel) : Fraction.of(0, 1);
                    mean = mean.plus(stops.times(seconds));
                    seeking = seeking.less(stops);
                }
                sum = sum.plus(mean.times(likely(now, end)));
            }
            return sum;
        }

        private long begin(One o, int n) {
            long best = -1;
            Fraction least = null;
            for (int place = 0; place < told.places; place++) {
                for (int way : new int[] {1, -1}) {
                    Fraction m = mean(o, place, way, n);
                    if (least == null || m.compare(least) < 0) {
                        least = m;
                        best = 2 * place + (way == 1 ? 0 : 1);
                    }
                }
            }
            return best;
        }

        private long noEnd(One o, int way, int a) {
            Fraction none = likely(now, told.places);
            Fraction somewhere = Fraction.of(1, 1).less(none);
            for (int k = 0; k <= 4; k++) {
                Fraction both = somewhere.plus(none);
                if (somewhere.compare(Fraction.of(a, 100).times(both)) <= 0) {
                    return k;
                }
                somewhere = somewhere.times(Fraction.of(10 - o.feel(way), 10));
            }
            return NONE;
        }

        private long lost(int w, int s, int side) {
            long sum = 0;
            for (int width = w; width > 0 && width < 20; width += side == 0 ? -s : s) {
                sum += 20 - width;
            }
            return sum;
        }

        private long pays(One o, int f) {
            Fraction saves = mean(o, 0, 1, 1).less(Fraction.of(1, 1));
            Fraction together = Fraction.of(0, 1);
            for (int k = 0; k <= 99; k++) {
                if (together.compare(Fraction.of(f, 1)) >= 0) {
                    return k;
                }
                together = together.plus(saves);
            }
            return NONE;
        }

        private long whose(int r, int i, int n) {
            if (told == null) {
                return STATE;
            }
            if (!row(r) || n < 1 || n > 6) {
                return BAD;
            }
            if (rows[r] == null) {
                return found(1);
            }
            if (i < 0 || i > rows[r].length - n) {
                return found(2);
            }
            int[] places = Arrays.copyOfRange(rows[r], i, i + n);
            for (int p : places) {
                if (p < 0 || p >= told.places) {
                    return BAD;
                }
            }
            long bits = 0;
            for (One o : told.seekers) {
                Now n0 = now.at(places[0], 0);
                boolean so = true;
                for (int k = 1; k < n; k++) {
                    n0 = n0.touched(new Touched(n0.place, o.feel(n0.way), false));
                    so &= nextPlace(o, n0) == places[k];
                    n0 = n0.at(places[k], 0);
                }
                bits |= so ? 1 << o.number : 0;
            }
            return well(bits);
        }

        private long rule(int s, int r, int n, int m, int what) {
            One o = one(s);
            if (o == null || !row(r) || n < 1 || n > 8 || m < 1 || m > 6 || what < 0 || what > 2) {
                return BAD;
            }
            if (rows[r] == null) {
                return found(1);
            }
            if (n > rows[r].length) {
                return found(2);
            }
            for (int k = 0; k < n; k++) {
                if (rows[r][k] < 0 || rows[r][k] > 3) {
                    return BAD;
                }
            }
            int place = now.place;
            int way = now.way;
            int seconds = m;
            List<int[]> touches = new ArrayList<>();
            for (int k = 0; k < m; k++) {
                touches.add(new int[] {place, o.feel(way)});
                int word = rows[r][k % n];
                int on = word == 0 ? 1 : word == 2 ? 2 : 0;
                place = turn(place + way * on);
                way = word == 1 ? -way : way;
                seconds += k + 1 == m ? 0 : on * told.step + (word == 1 ? told.over : 0);
            }
            Fraction sum = Fraction.of(0, 1);
            for (int end = 0; end < told.places; end++) {
                Fraction unfelt = Fraction.of(1, 1);
                for (int[] t : touches) {
                    unfelt = t[0] == end ? unfelt.times(Fraction.of(10 - t[1], 10)) : unfelt;
                }
                sum = sum.plus(likely(now, end).times(Fraction.of(1, 1).less(unfelt)));
            }
            return well(what == 2 ? seconds : sum.part(what));
        }

        private long search(One o, int seed, int what) {
            BigInteger x = BigInteger.valueOf(seed);
            BigInteger by = BigInteger.valueOf(16807);
            BigInteger rest = BigInteger.valueOf(2147483647);
            List<Integer> wheel = new ArrayList<>();
            for (int i = 0; i < told.places; i++) {
                for (int k = 0; k < told.weights[i]; k++) {
                    wheel.add(i);
                }
            }
            for (int k = 0; k < told.missing; k++) {
                wheel.add(-1);
            }
            x = x.multiply(by).mod(rest);
            int end = wheel.get(x.mod(BigInteger.valueOf(wheel.size())).intValue());
            for (int t = 1; t <= 40; t++) {
                int here = (t - 1) % told.places;
                x = x.multiply(by).mod(rest);
                int draw = x.mod(BigInteger.TEN).intValue();
                if (here == end && draw < o.feel(1)) {
                    return what == 0 ? t : 1;
                }
                if (here != end && draw < told.ridges.getOrDefault(here, 0)) {
                    return what == 0 ? t : 0;
                }
            }
            return NONE;
        }

        private static final int[] ABOVE = {-1, 0, 1, 1, 0, 4};
        private static final int[][] BODIES = {{10, 11, 12, 0, 13, 14}, {20, 21, 24, 22, 23, 0}};

        private int asked(One o, int what) {
            int kind = o.kind();
            while (BODIES[what][kind] == 0) {
                kind = ABOVE[kind];
            }
            return body(o, BODIES[what][kind]);
        }

        private int body(One o, int number) {
            trace.add(number);
            switch (number) {
                case 10: return o.with;
                case 11: return body(o, 10) + asked(o, 1);
                case 12: return -body(o, 11);
                case 13: return body(o, 10) - 100;
                case 14: return body(o, 13) * 2;
                case 20: return o.number;
                case 21: return body(o, 20) + o.against;
                case 22: return body(o, 21) - 1000;
                case 23: return body(o, 20) - asked(o, 0);
                default: return body(o, 21) * 2;
            }
        }

        private boolean is(int kind, int other) {
            for (int k = kind; k >= 0; k = ABOVE[k]) {
                if (k == other) {
                    return true;
                }
            }
            return false;
        }

        private long roll() {
            String text = tape;
            tape = "";
            try {
                told = new Text(text).told();
            } catch (Fault f) {
                fault = f.number;
                return -1000100 - f.at;
            }
            now = new Now(0, 1, 0, List.of(), NONE);
            past.clear();
            return told.places;
        }

        private long copy(int[] a) {
            if (!row(a[0]) || !row(a[2])) {
                return BAD;
            }
            if (rows[a[0]] == null || rows[a[2]] == null) {
                return found(1);
            }
            if (lanes[a[0]] != lanes[a[2]]) {
                return found(5);
            }
            int[] from = rows[a[0]].clone();
            int[] to = rows[a[2]];
            if (a[1] < 0 || a[3] < 0 || a[4] < 0 || a[1] > from.length - a[4] || a[3] > to.length - a[4]) {
                return found(2);
            }
            for (int k = 0; k < a[4]; k++) {
                to[a[3] + k] = from[a[1] + k];
            }
            return well(a[4]);
        }

        private long set(int r, int i, int v) {
            if (!row(r)) {
                return BAD;
            }
            if (rows[r] == null) {
                return found(1);
            }
            if (i < 0 || i >= rows[r].length) {
                return found(2);
            }
            int spare = 32 - (8 << lanes[r]);
            rows[r][i] = v << spare >> spare;
            return well(rows[r][i]);
        }

        private long nail(int what) {
            if (told == null) {
                return STATE;
            }
            int last = now.touches.size() - 1;
            int[] answers = {now.place, now.way, now.seconds, last + 1,
                last >= 0 && now.touches.get(last).felt ? 1 : 0, now.tab};
            return what < 0 || what >= answers.length ? BAD : answers[what];
        }

        private long count(int what) {
            int there = 0;
            for (int[] r : rows) {
                there += r == null ? 0 : 1;
            }
            int[] answers = {there, told == null ? 0 : told.places, told == null ? 0 : told.ridges.size(),
                told == null ? 0 : told.seekers.size(), past.size(), tape.length()};
            return what < 0 || what >= answers.length ? BAD : answers[what];
        }

        private boolean place(int p) {
            return told != null && p >= 0 && p < told.places;
        }

        private boolean splinter(int w, int s, int side) {
            return w > 0 && w < 20 && s > 0 && s < 10 && (side == 0 || side == 1);
        }

        private boolean bit(int what) {
            return what == 0 || what == 1;
        }

        long answer(String call, int[] a) {
            switch (call) {
                case "row":
                    if (!row(a[0]) || a[1] < 0 || a[1] > 2 || a[2] > 40) {
                        return BAD;
                    }
                    if (a[2] < 0) {
                        return found(4);
                    }
                    rows[a[0]] = new int[a[2]];
                    lanes[a[0]] = a[1];
                    return well(a[2]);
                case "set": return set(a[0], a[1], a[2]);
                case "copy": return copy(a);
                case "drop":
                    if (!row(a[0])) {
                        return BAD;
                    }
                    if (rows[a[0]] == null) {
                        return found(1);
                    }
                    int had = rows[a[0]].length;
                    rows[a[0]] = null;
                    return well(had);
                case "feed":
                    if (a[0] < 0 || a[0] > 255) {
                        return BAD;
                    }
                    if (tape.length() == 120) {
                        return FULL;
                    }
                    tape += (char) a[0];
                    return tape.length();
                case "roll": return roll();
                case "fault": return fault;
                case "undo":
                    if (past.isEmpty()) {
                        return STATE;
                    }
                    now = past.removeLast();
                    return past.size();
                case "count": return count(a[0]);
                case "status": return status;
                case "trace": return a[0] >= 0 && a[0] < trace.size() ? trace.get(a[0]) : NONE;
                default: return done(call, a);
            }
        }

        private long done(String call, int[] a) {
            switch (call) {
                case "touch": return touch(a[0], a[1]);
                case "go":
                    if (told == null) {
                        return STATE;
                    }
                    if (a[0] < 1 || a[0] > 12) {
                        return BAD;
                    }
                    act(now.at(turn(now.place + now.way * a[0]), told.step * a[0]));
                    return now.place;
                case "over":
                    if (told == null) {
                        return STATE;
                    }
                    act(new Now(now.place, -now.way, now.seconds + told.over, now.touches, now.tab));
                    return now.way;
                case "seek":
                    if (one(a[0]) == null) {
                        return BAD;
                    }
                    int next = nextPlace(one(a[0]), now);
                    int between = Math.min(turn(next - now.place), turn(now.place - next));
                    act(now.at(next, between * told.step));
                    return next;
                case "fold":
                    if (told == null) {
                        return STATE;
                    }
                    if (!place(a[0])) {
                        return BAD;
                    }
                    int was = now.tab;
                    act(new Now(now.place, now.way, now.seconds, now.touches, a[0]));
                    return was;
                case "nail": return nail(a[0]);
                case "place":
                    if (!place(a[0]) || !bit(a[1])) {
                        return BAD;
                    }
                    return a[1] == 0 ? told.weights[a[0]] : told.ridges.getOrDefault(a[0], 0);
                case "seeker":
                    One o = one(a[0]);
                    if (o == null || a[1] < 0 || a[1] > 3) {
                        return BAD;
                    }
                    return new int[] {o.with, o.against, o.feel(now.way), nextPlace(o, now)}[a[1]];
                case "likelihood":
                    if (told == null || a[0] < 0 || a[0] > told.places) {
                        return BAD;
                    }
                    return likelihood(now, a[0]).longValueExact();
                default: return foretold(call, a);
            }
        }

        private long foretold(String call, int[] a) {
            One o = one(a.length > 0 ? a[0] : -1);
            switch (call) {
                case "likely":
                    boolean there = told != null && a[0] >= 0 && a[0] <= told.places && bit(a[1]);
                    return there ? likely(now, a[0]).part(a[1]) : BAD;
                case "felt":
                    if (o == null || !bit(a[1])) {
                        return BAD;
                    }
                    Fraction here = likely(now, now.place).times(Fraction.of(o.feel(now.way), 10));
                    Fraction ridge = Fraction.of(told.ridges.getOrDefault(now.place, 0), 10);
                    Fraction not = Fraction.of(1, 1).less(likely(now, now.place)).times(ridge);
                    return here.plus(not).part(a[1]);
                case "surest": return told == null ? STATE : greatest(now, -1);
                case "mean":
                    if (o == null || !place(a[1]) || Math.abs((long) a[2]) != 1 || a[3] < 1 || a[3] > 3 || !bit(a[4])) {
                        return BAD;
                    }
                    return mean(o, a[1], a[2], a[3]).part(a[4]);
                case "begin": return o == null || a[1] < 1 || a[1] > 3 ? BAD : begin(o, a[1]);
                case "noEnd":
                    boolean way = a[1] == 1 || a[1] == -1;
                    return o == null || !way || a[2] < 0 || a[2] > 99 ? BAD : noEnd(o, a[1], a[2]);
                case "width":
                    if (!splinter(a[0], a[1], a[2]) || a[3] < 0 || a[3] > 40) {
                        return BAD;
                    }
                    int w = a[0] + (a[2] == 0 ? -1 : 1) * a[1] * a[3];
                    return w < 0 ? 0 : w > 20 ? 20 : w;
                case "lost": return splinter(a[0], a[1], a[2]) ? lost(a[0], a[1], a[2]) : BAD;
                case "pays": return o == null || a[1] < 0 || a[1] > 99 ? BAD : pays(o, a[1]);
                case "whose": return whose(a[0], a[1], a[2]);
                case "rule": return rule(a[0], a[1], a[2], a[3], a[4]);
                case "search":
                    boolean bad = o == null || a[1] < 1 || a[1] > 999999 || !bit(a[2]);
                    return bad ? BAD : search(o, a[1], a[2]);
                default: return kept(call, a, o);
            }
        }

        private long kept(String call, int[] a, One o) {
            switch (call) {
                case "image":
                    if (!bit(a[0]) || told == null) {
                        return bit(a[0]) ? STATE : BAD;
                    }
                    imageTold[a[0]] = told;
                    imageNow[a[0]] = now;
                    return 1;
                case "restore":
                    if (!bit(a[0]) || imageTold[a[0]] == null) {
                        return bit(a[0]) ? STATE : BAD;
                    }
                    told = imageTold[a[0]];
                    now = imageNow[a[0]];
                    past.clear();
                    return 1;
                case "kind": return o == null ? BAD : o.kind();
                case "as":
                    if (o == null || a[1] < 0 || a[1] > 5) {
                        return BAD;
                    }
                    return is(o.kind(), a[1]) ? well(a[0]) : found(3);
                case "ask":
                    if (o == null || !bit(a[1])) {
                        return BAD;
                    }
                    trace = new ArrayList<>();
                    return asked(o, a[1]);
                default: throw new IllegalStateException(call);
            }
        }
    }

    private static long answer(TapeEnd x, String call, int[] a) {
        switch (call) {
            case "row": return x.row(a[0], a[1], a[2]);
            case "set": return x.set(a[0], a[1], a[2]);
            case "copy": return x.copy(a[0], a[1], a[2], a[3], a[4]);
            case "drop": return x.drop(a[0]);
            case "feed": return x.feed(a[0]);
            case "roll": return x.roll();
            case "fault": return x.fault();
            case "undo": return x.undo();
            case "touch": return x.touch(a[0], a[1]);
            case "go": return x.go(a[0]);
            case "over": return x.over();
            case "seek": return x.seek(a[0]);
            case "fold": return x.fold(a[0]);
            case "nail": return x.nail(a[0]);
            case "place": return x.place(a[0], a[1]);
            case "seeker": return x.seeker(a[0], a[1]);
            case "likelihood": return x.likelihood(a[0]);
            case "likely": return x.likely(a[0], a[1]);
            case "felt": return x.felt(a[0], a[1]);
            case "surest": return x.surest();
            case "mean": return x.mean(a[0], a[1], a[2], a[3], a[4]);
            case "begin": return x.begin(a[0], a[1]);
            case "noEnd": return x.noEnd(a[0], a[1], a[2]);
            case "width": return x.width(a[0], a[1], a[2], a[3]);
            case "lost": return x.lost(a[0], a[1], a[2]);
            case "pays": return x.pays(a[0], a[1]);
            case "whose": return x.whose(a[0], a[1], a[2]);
            case "rule": return x.rule(a[0], a[1], a[2], a[3], a[4]);
            case "search": return x.search(a[0], a[1], a[2]);
            case "image": return x.image(a[0]);
            case "restore": return x.restore(a[0]);
            case "kind": return x.kind(a[0]);
            case "as": return x.as(a[0], a[1]);
            case "ask": return x.ask(a[0], a[1]);
            case "trace": return x.trace(a[0]);
            case "count": return x.count(a[0]);
            default: return x.status();
        }
    }

    /** A call and, for each number, the least and the greatest that is asked for mostly. */
    private record Shape(String call, int often, int... bounds) {
    }

    private static final List<Shape> SHAPES = List.of(new Shape("row", 3, 0, 3, 0, 2, -1, 9),
            new Shape("set", 12, 0, 3, 0, 8, -1, 6), new Shape("copy", 4, 0, 3, 0, 5, 0, 3, 0, 5, -1, 4),
            new Shape("drop", 1, 0, 7), new Shape("roll", 1), new Shape("fault", 1), new Shape("undo", 4),
            new Shape("touch", 12, 0, 3, 0, 1), new Shape("go", 6, 1, 12), new Shape("over", 4),
            new Shape("seek", 6, 0, 3), new Shape("fold", 2, 0, 11), new Shape("nail", 5, 0, 5),
            new Shape("place", 2, 0, 12, 0, 1), new Shape("seeker", 6, 0, 3, 0, 3), new Shape("likelihood", 5, 0, 12),
            new Shape("likely", 5, 0, 12, 0, 1), new Shape("felt", 4, 0, 3, 0, 1), new Shape("surest", 2),
            new Shape("mean", 4, 0, 3, 0, 11, -1, 1, 1, 3, 0, 1), new Shape("begin", 1, 0, 3, 1, 3),
            new Shape("noEnd", 4, 0, 3, -1, 1, 0, 99), new Shape("width", 2, 1, 19, 1, 9, 0, 1, 0, 40),
            new Shape("lost", 2, 1, 19, 1, 9, 0, 1), new Shape("pays", 3, 0, 3, 0, 99),
            new Shape("whose", 6, 0, 3, 0, 6, 1, 4), new Shape("rule", 6, 0, 3, 0, 3, 1, 8, 1, 6, 0, 2),
            new Shape("search", 4, 0, 3, 1, 999999, 0, 1), new Shape("image", 1, 0, 1), new Shape("restore", 1, 0, 1),
            new Shape("kind", 1, 0, 3), new Shape("as", 3, 0, 3, 0, 5), new Shape("ask", 3, 0, 3, 0, 1),
            new Shape("trace", 4, 0, 6), new Shape("count", 3, 0, 5), new Shape("status", 5),
            new Shape("feed", 1, 0, 255));

    private static final int[] ODD = {-1, 0, 40, 41, 100, 255, 256, Integer.MAX_VALUE, Integer.MIN_VALUE,
        Integer.MAX_VALUE - 3, -1000000, 1000000, 2, -2, 13};

    private final Random random;
    private final TapeEnd x = new TapeEnd();
    private final Model model = new Model();
    private final int run;
    private int calls = 0;
    private int wrong = 0;

    private TapeEndModel(int run) {
        this.run = run;
        random = new Random(20261118L * 31 + run);
    }

    private int between(int least, int most) {
        return least + random.nextInt(most - least + 1);
    }

    private void call(String call, int... a) {
        if (calls >= CALLS) {
            return;
        }
        calls++;
        long want = model.answer(call, a);
        long got = answer(x, call, a);
        if (got != want) {
            wrong++;
            System.out.println("run " + run + ", call " + calls + ": " + call + Arrays.toString(a)
                    + " answered " + got + ", due is " + want);
        }
    }

    private String text() {
        int places = between(4, random.nextInt(3) == 0 ? 12 : 7);
        StringBuilder s = new StringBuilder();
        s.append('o').append(places).append(',').append(between(0, 9)).append(',').append(between(0, 20));
        s.append(',').append(random.nextInt(3) == 0 ? 0 : between(0, 9)).append(";p");
        for (int i = 0; i < places; i++) {
            s.append(i == 0 ? "" : ",").append(between(1, random.nextBoolean() ? 9 : 2));
        }
        s.append(';');
        int first = between(0, places - 1);
        for (int k = between(0, 4); k > 0; k--) {
            s.append('r').append((first + k) % places).append(',').append(between(1, 9)).append(';');
        }
        for (int k = random.nextInt(6) == 0 ? between(0, 3) : 4; k > 0; k--) {
            s.append("ublmt".charAt(random.nextInt(5))).append(sureness()).append(',').append(sureness()).append(';');
        }
        return s.toString();
    }

    private int sureness() {
        return random.nextInt(4) == 0 ? 10 * random.nextInt(2) : between(0, 10);
    }

    private String spoilt(String text) {
        StringBuilder s = new StringBuilder(text);
        for (int k = between(1, 2); k > 0 && s.length() > 0; k--) {
            int at = random.nextInt(s.length());
            switch (random.nextInt(4)) {
                case 0 -> s.deleteCharAt(at);
                case 1 -> s.insert(at, "0123456789,;oprublmtx Z".charAt(random.nextInt(23)));
                case 2 -> s.setCharAt(at, "0123456789,;oprublmtx Z".charAt(random.nextInt(23)));
                default -> s.append(random.nextBoolean() ? "r0,1;" : "u1,1;");
            }
        }
        if (random.nextInt(4) == 0) {
            s.setLength(random.nextInt(s.length() + 1));
        }
        return s.toString();
    }

    private void tell(String text) {
        for (int i = 0; i < text.length(); i++) {
            call("feed", text.charAt(i));
        }
        call("roll");
        call("fault");
        call("count", 5);
    }

    private Shape shape() {
        int all = 0;
        for (Shape s : SHAPES) {
            all += s.often;
        }
        int k = random.nextInt(all);
        for (Shape s : SHAPES) {
            k -= s.often;
            if (k < 0) {
                return s;
            }
        }
        return SHAPES.get(0);
    }

    private void any() {
        Shape s = shape();
        int[] a = new int[s.bounds.length / 2];
        for (int i = 0; i < a.length; i++) {
            a[i] = between(s.bounds[2 * i], s.bounds[2 * i + 1]);
        }
        if (a.length > 0 && random.nextInt(12) == 0) {
            a[random.nextInt(a.length)] = random.nextInt(5) == 0 ? random.nextInt() : ODD[random.nextInt(ODD.length)];
        }
        if (s.call.equals("feed")) {
            return;
        }
        call(s.call, a);
        // Who goes on as the row tells is rare by chance: so one SEEKER's way is written down.
        if (s.call.equals("whose") && random.nextBoolean() && model.told != null) {
            path();
        }
    }

    private void path() {
        One o = model.one(between(0, 3));
        if (o == null) {
            return;
        }
        int n = between(2, 6);
        call("row", 5, between(0, 2), n);
        Now now = model.now.at(between(0, model.told.places - 1), 0);
        for (int k = 0; k < n; k++) {
            call("set", 5, k, now.place);
            now = now.touched(new Touched(now.place, o.feel(now.way), false));
            now = now.at(model.nextPlace(o, now), 0);
        }
        call("whose", 5, 0, n);
    }

    private void go() {
        int texts = between(1, 4);
        for (int k = 0; k < texts; k++) {
            if (random.nextInt(3) == 0) {
                tell(spoilt(text()));
            }
            if (random.nextInt(8) != 0) {
                tell(text());
            }
            int till = k + 1 == texts ? CALLS : calls + between(20, 150);
            for (int turn = 0; turn < CALLS && calls < till; turn++) {
                any();
            }
        }
    }

    public static void main(String[] args) {
        int wrong = 0;
        long calls = 0;
        for (int run = 0; run < RUNS; run++) {
            TapeEndModel one = new TapeEndModel(run);
            try {
                one.go();
            } catch (RuntimeException e) {
                one.wrong++;
                System.out.println("run " + run + ", call " + one.calls + ": thrown " + e);
            }
            wrong += one.wrong;
            calls += one.calls;
        }
        System.out.println(wrong == 0 ? calls + " answers are as due" : wrong + " answers are not as due");
        if (wrong != 0) {
            System.exit(1);
        }
    }
}
