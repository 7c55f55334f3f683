import java.lang.reflect.InvocationTargetException;
import java.lang.reflect.Method;
import java.util.ArrayList;
import java.util.HashMap;
import java.util.List;
import java.util.Map;
import java.util.Set;

/**
 * Each sentence of the document that names an edge, in its own words, with a run of calls of its own. A run is
 * written as "call = answer", two blanks or a new line between them; "call" alone is called, not looked at.
 * Of every call that is refused, found, foretold or asked it is looked at, too, that it changes nothing: the run
 * up to it is done twice, with it and without it, and all that can be seen of both objects is compared.
 */
public final class TapeEndEdges {
    private static final int MOST_CALLS = 512;
    private static final int BAD = -1000001, STATE = -1000002, FULL = -1000003;
    private static final int FINDINGS = -1000010;
    private static final int FAULTS = -1000100;

    private static final Map<String, Long> NAMED = Map.of("NONE", -1000000L, "BAD", (long) BAD, "STATE",
            (long) STATE, "FULL", (long) FULL, "NULL", -1000011L, "PLACE", -1000012L, "KIND", -1000013L, "SIZE",
            -1000014L, "STORE", -1000015L);

    /** What only tells: neither an ACT nor anything else that may change the object, but THE TRACE and status(). */
    private static final Set<String> TELLING = Set.of("fault", "nail", "place", "seeker", "likelihood", "likely",
            "felt", "surest", "mean", "begin", "noEnd", "width", "lost", "pays", "whose", "rule", "search", "kind",
            "as", "ask", "trace", "count", "status");

    /** 6 PLACES, STEP 2, OVER 5, weights 24 with MISSING 1; ridges at 2 and 4; SEEKERS u, b, l, m. */
    private static final String SIX = "o6,2,5,1;p3,1,4,1,5,9;r2,3;r4,6;u7,2;b5,5;l1,8;m9,4;";
    /** 4 PLACES, STEP 1, OVER 3, weights 12 with MISSING 2; a ridge at 1; SEEKERS t, m, b, u. */
    private static final String FOUR = "o4,1,3,2;p1,2,3,4;r1,5;t6,3;m2,9;b8,4;u10,0;";
    /** 4 PLACES, STEP 0, OVER 0, MISSING 0, weights of 1 without ridges. */
    private static final String BARE = "o4,0,0,0;p1,1,1,1;";
    /** 12 PLACES, STEP 9, OVER 20, MISSING 9, weights 117 with it. */
    private static final String TWELVE = "o12,9,20,9;p9,9,9,9,9,9,9,9,9,9,9,9;";
    /** The longest text that has no FAULT: 106 bytes. */
    private static final String LONGEST = "o12,09,20,09;p09,09,09,09,09,09,09,09,09,09,09,09;r00,09;r01,09;r02,09;"
            + "r03,09;u10,10;b10,10;l10,10;m10,10;";
    private static final Map<String, String> TEXTS = Map.of("SIX", SIX, "FOUR", FOUR, "BARE", BARE, "TWELVE", TWELVE,
            "LONGEST", LONGEST);

    private static final Map<String, Method> METHODS = new HashMap<>();

    private static String sentence = "";
    private static int asked = 0;
    private static int wrong = 0;

    // ---- runs

    /** One step of a run: a call, how often, and the answer that is due (null: any). */
    private record Step(String text, String name, int[] numbers, int times, Long due) {
        boolean isRefused() {
            return due != null && (due == BAD || due == STATE || due == FULL || isFound());
        }

        boolean isFound() {
            return due != null && due < FINDINGS && due >= FINDINGS - 5;
        }

        boolean isFault() {
            return due != null && name.equals("roll") && due <= FAULTS;
        }

        boolean changesNothing() {
            return isRefused() || isFault() || TELLING.contains(name);
        }

        /** What status() answers behind it, if this call says anything of that. */
        Long statusBehind() {
            if (isFound()) {
                return FINDINGS - due;
            }
            boolean looks = name.equals("whose") || name.equals("rule") || name.equals("as");
            return looks && !isRefused() ? 0L : null;
        }
    }

    /** An object with its calls counted: beyond the 512th nothing is promised. */
    private static final class Counted {
        private final TapeEnd made = new TapeEnd();
        private int calls = 0;

        long call(String name, int... numbers) {
            calls++;
            if (calls > MOST_CALLS) {
                throw new IllegalStateException(sentence + ": the test itself calls too often");
            }
            Method method = METHODS.get(name);
            if (method == null || method.getParameterCount() != numbers.length) {
                throw new IllegalStateException(sentence + ": no such call: " + name);
            }
            Object[] boxed = new Object[numbers.length];
            for (int i = 0; i < numbers.length; i++) {
                boxed[i] = numbers[i];
            }
            try {
                return ((Number) method.invoke(made, boxed)).longValue();
            } catch (InvocationTargetException e) {
                throw new IllegalStateException(sentence + ": " + name + " threw " + e.getCause());
            } catch (IllegalAccessException e) {
                throw new IllegalStateException(e);
            }
        }

        void read(String text) {
            feed(text);
            call("roll");
        }

        void feed(String text) {
            for (int i = 0; i < text.length(); i++) {
                call("feed", text.charAt(i));
            }
        }

        void run(List<Step> steps) {
            for (Step step : steps) {
                run(step);
            }
        }

        long run(Step step) {
            if (step.name.equals("tape")) {
                feed(step.text);
                return call("count", 5);
            }
            long answer = 0;
            for (int i = 0; i < step.times; i++) {
                answer = call(step.name, step.numbers);
            }
            return answer;
        }
    }

    private static void due(String call, long got, long want) {
        asked++;
        if (got != want) {
            wrong++;
            System.out.println(sentence + ": " + call + " answered " + got + ", due is " + want);
        }
    }

    private static List<Step> steps(String run) {
        List<Step> steps = new ArrayList<>();
        for (String one : run.strip().split("\\s{2,}|\\n")) {
            String[] sides = one.split(" = ");
            Long due = sides.length < 2 ? null : answer(sides[1]);
            String call = sides[0];
            int times = 1;
            if (call.contains(" x ")) {
                times = Integer.parseInt(call.substring(0, call.indexOf(" x ")));
                call = call.substring(call.indexOf(" x ") + 3);
            }
            if (call.startsWith("read ")) {
                steps.add(new Step(text(call.substring(5)), "tape", new int[0], 1, null));
                steps.add(new Step("roll()", "roll", new int[0], 1, due));
            } else if (call.startsWith("tape ")) {
                steps.add(new Step(text(call.substring(5)), "tape", new int[0], 1, due));
            } else {
                int open = call.indexOf('(');
                int[] numbers = numbers(call.substring(open + 1, call.indexOf(')')));
                steps.add(new Step(call, call.substring(0, open), numbers, times, due));
            }
        }
        return steps;
    }

    /** A text with names of texts in front of it, as in $BARE+u1,1; */
    private static String text(String told) {
        if (!told.startsWith("$")) {
            return told;
        }
        int plus = told.indexOf('+');
        String name = told.substring(1, plus < 0 ? told.length() : plus);
        return TEXTS.get(name) + (plus < 0 ? "" : told.substring(plus + 1));
    }

    private static long answer(String told) {
        return NAMED.containsKey(told) ? NAMED.get(told) : Long.parseLong(told);
    }

    private static int[] numbers(String told) {
        if (told.isEmpty()) {
            return new int[0];
        }
        String[] parts = told.split(", ");
        int[] numbers = new int[parts.length];
        for (int i = 0; i < parts.length; i++) {
            numbers[i] = Integer.parseInt(parts[i]);
        }
        return numbers;
    }

    /** The sentence of the document, and a run on a new object that would not go so, if it did not hold. */
    private static void edge(String words, String run) {
        sentence = words;
        List<Step> steps = steps(run);
        Counted x = new Counted();
        for (Step step : steps) {
            long got = x.run(step);
            if (step.due != null) {
                due(step.text, got, step.due);
            }
        }
        for (int k = 0; k < steps.size(); k++) {
            if (steps.get(k).changesNothing()) {
                dueUnchanged(steps.subList(0, k), steps.get(k));
            }
        }
    }

    // ---- nothing changes

    private static void dueUnchanged(List<Step> ahead, Step step) {
        for (int look = 0; look <= 4; look++) {
            Counted with = new Counted();
            Counted without = new Counted();
            with.run(ahead);
            without.run(ahead);
            with.run(step);
            Map<String, Long> seen = look(with, look, step);
            Map<String, Long> want = look(without, look, step);
            if (look == 0 && step.statusBehind() != null) {
                want.put("status()", step.statusBehind());
            }
            asked++;
            if (!seen.equals(want)) {
                wrong++;
                System.out.println(sentence + ": " + step.text + " changes something: " + seen + ", not " + want);
            }
        }
    }

    private static Map<String, Long> look(Counted x, int look, Step step) {
        Map<String, Long> seen = new HashMap<>();
        switch (look) {
            case 0 -> lookNow(x, seen, step);
            case 1 -> lookAtRows(x, seen, 0, 6, 7);
            case 2 -> lookAtRows(x, seen, 7, 7, 0);
            case 3 -> lookAtActs(x, seen);
            default -> lookAtImages(x, seen, step);
        }
        return seen;
    }

    private static void see(Counted x, Map<String, Long> seen, String name, int... numbers) {
        seen.put(name + java.util.Arrays.toString(numbers) + "#" + seen.size(), x.call(name, numbers));
    }

    private static void lookNow(Counted x, Map<String, Long> seen, Step step) {
        seen.put("status()", x.call("status"));
        if (!step.isFault()) {
            see(x, seen, "fault");
            see(x, seen, "count", 5);
        }
        for (int what = 0; what <= 4; what++) {
            see(x, seen, "count", what);
        }
        if (!step.name.equals("ask") || step.isRefused()) {
            for (int i = 0; i < 17; i++) {
                see(x, seen, "trace", i);
            }
        }
        lookAtRoll(x, seen);
    }

    private static void lookAtRoll(Counted x, Map<String, Long> seen) {
        for (int what = 0; what <= 5; what++) {
            see(x, seen, "nail", what);
        }
        int places = (int) x.call("count", 1);
        for (int place = 0; place <= places; place++) {
            see(x, seen, "likelihood", place);
            see(x, seen, "place", place, 0);
            see(x, seen, "place", place, 1);
        }
        for (int seeker = 0; seeker <= 4; seeker++) {
            see(x, seen, "seeker", seeker, 0);
            see(x, seen, "seeker", seeker, 1);
            see(x, seen, "seeker", seeker, 3);
            see(x, seen, "kind", seeker);
        }
    }

    /** LANE, size and ITEMS (0 to 3 as words of a rule, all others as none) of each ROW that is there. */
    private static void lookAtRows(Counted x, Map<String, Long> seen, int first, int last, int spare) {
        x.call("roll");
        x.read("o4,2,7,0;p1,1,1,1;u1,1;");
        for (int row = first; row <= last; row++) {
            if (x.call("copy", row, 0, row, 0, 0) != 0) {
                see(x, seen, "drop", row);
                continue;
            }
            int lane = 0;
            x.call("row", spare, lane, 1);
            while (x.call("copy", row, 0, spare, 0, 0) != 0) {
                lane++;
                x.call("row", spare, lane, 1);
            }
            seen.put("lane of " + row, (long) lane);
            for (int i = 0; x.call("copy", row, i, spare, 0, 1) == 1; i++) {
                see(x, seen, "rule", 0, spare, 1, 2, 2);
            }
            see(x, seen, "drop", row);
        }
    }

    private static void lookAtActs(Counted x, Map<String, Long> seen) {
        int places = (int) x.call("count", 1);
        for (long left = 1; left >= 0;) {
            left = x.call("undo");
            seen.put("undo to " + left, left);
            for (int what = 0; what <= 5; what++) {
                see(x, seen, "nail", what);
            }
            see(x, seen, "likelihood", 0);
            see(x, seen, "likelihood", places);
        }
    }

    private static void lookAtImages(Counted x, Map<String, Long> seen, Step step) {
        if (!step.isFault()) {
            see(x, seen, "roll");
            see(x, seen, "fault");
        }
        lookAtRoll(x, seen);
        for (int k = 0; k <= 1; k++) {
            see(x, seen, "restore", k);
            lookAtRoll(x, seen);
        }
    }

    // ---- Terms: refusals

    private static void terms() {
        edge("Numbers go from 0 on", """
            read $SIX = 6
            seeker(-1, 0) = BAD  seeker(0, 0) = 7  place(-1, 0) = BAD  place(0, 0) = 3
            likelihood(-1) = BAD  likelihood(0) = 3  row(-1, 0, 1) = BAD  row(0, 0, 1) = 1""");
        edge("fractions, told as two numbers in lowest terms", """
            read $SIX = 6
            likely(2, 0) = 1  likely(2, 1) = 6  likely(4, 0) = 5  likely(4, 1) = 24  likely(5, 0) = 3
            likely(5, 1) = 8""");
        edge("0 is 0 by 1", """
            read $BARE+u0,0; = 4  row(0, 0, 1) = 1
            likely(4, 0) = 0  likely(4, 1) = 1  felt(0, 0) = 0  felt(0, 1) = 1
            rule(0, 0, 1, 6, 0) = 0  rule(0, 0, 1, 6, 1) = 1""");
        edge("fractions in lowest terms: all of it is 1 by 1", """
            read $BARE+u10,10; = 4  touch(0, 1) = 1  row(0, 0, 1) = 1
            likely(0, 0) = 1  likely(0, 1) = 1  felt(0, 0) = 1  felt(0, 1) = 1
            rule(0, 0, 1, 1, 0) = 1  rule(0, 0, 1, 1, 1) = 1  mean(0, 0, 1, 3, 0) = 1  mean(0, 0, 1, 3, 1) = 1""");
        edge("Refusals are answers, the first of these that fits: BAD ahead of STATE", """
            image(-1) = BAD  image(2) = BAD  image(0) = STATE
            restore(-1) = BAD  restore(2) = BAD  restore(1) = STATE
            read $BARE+u0,0; = 4
            touch(0, 1) = STATE  touch(0, 2) = BAD  touch(1, 1) = BAD  restore(1) = STATE  restore(2) = BAD""");
        edge("BAD ahead of STATE: a call of a SEEKER, a PLACE, without a ROLL", """
            touch(0, 0) = BAD  seek(0) = BAD  place(0, 0) = BAD  seeker(0, 0) = BAD  likelihood(0) = BAD
            likely(0, 0) = BAD  felt(0, 0) = BAD  mean(0, 0, 1, 1, 0) = BAD  begin(0, 1) = BAD  noEnd(0, 1, 5) = BAD
            pays(0, 0) = BAD  rule(0, 0, 1, 1, 0) = BAD  search(0, 1, 0) = BAD  kind(0) = BAD  as(0, 0) = BAD
            ask(0, 0) = BAD  surest() = STATE  over() = STATE  undo() = STATE""");
        edge("but as told: no ROLL (ahead of BAD)", """
            go(0) = STATE  go(13) = STATE  go(1) = STATE  fold(-1) = STATE  fold(0) = STATE  nail(-1) = STATE
            nail(6) = STATE  nail(0) = STATE  whose(-1, 0, 1) = STATE  whose(8, 0, 1) = STATE
            whose(0, 0, 0) = STATE  whose(0, 0, 7) = STATE  whose(0, 0, 1) = STATE
            read $FOUR = 4
            go(0) = BAD  go(13) = BAD  fold(-1) = BAD  fold(4) = BAD  nail(-1) = BAD  nail(6) = BAD
            whose(-1, 0, 1) = BAD  whose(8, 0, 1) = BAD  whose(0, 0, 0) = BAD  whose(0, 0, 7) = BAD""");
        edge("STATE ahead of FULL", """
            read $BARE+u0,5; = 4  10 x touch(0, 0) = 10
            touch(0, 0) = FULL  touch(0, 1) = STATE  touch(0, 2) = BAD  touch(1, 1) = BAD""");
        edge("BAD ahead of FULL", """
            119 x feed(0) = 119  feed(255) = 120  feed(0) = FULL  feed(-1) = BAD  feed(256) = BAD""");
        edge("then FINDINGS: BAD ahead of them", """
            row(8, 0, -1) = BAD  row(0, 3, -1) = BAD  set(8, 0, 0) = BAD  copy(8, 0, 0, 0, 0) = BAD
            copy(0, 0, 8, 0, 0) = BAD  drop(8) = BAD  status() = 0
            read $FOUR = 4
            whose(0, 0, 7) = BAD  rule(0, 0, 9, 1, 0) = BAD  rule(0, 0, 1, 7, 0) = BAD  rule(0, 0, 1, 1, 3) = BAD
            rule(4, 0, 1, 1, 0) = BAD  as(4, 5) = BAD  as(3, 6) = BAD  status() = 0  as(3, 5) = KIND""");
        edge("of several the first in time", """
            row(0, 0, 2) = 2  row(1, 1, 2) = 2
            set(2, -1, 0) = NULL  copy(2, -1, 0, 0, 1) = NULL  copy(0, 0, 2, 0, -1) = NULL  copy(2, 0, 1, 0, 1) = NULL
            copy(0, -1, 1, 0, 1) = STORE  copy(0, 0, 1, 0, -1) = STORE  copy(0, 0, 1, 2, 1) = STORE
            copy(0, -1, 0, 0, 1) = PLACE
            read $FOUR = 4
            whose(2, -1, 1) = NULL  whose(0, -1, 1) = PLACE  rule(0, 2, 8, 1, 0) = NULL
            rule(0, 0, 8, 1, 0) = PLACE""");
    }

    // ---- 1: ROWS

    private static void rows() {
        edge("ROWS 0 .. 7 are missing (at first)", """
            drop(0) = NULL  drop(1) = NULL  drop(2) = NULL  drop(3) = NULL  drop(4) = NULL  drop(5) = NULL
            drop(6) = NULL  drop(7) = NULL  drop(8) = BAD  drop(-1) = BAD  count(0) = 0  set(7, 0, 0) = NULL""");
        edge("ROWS 0 .. 7: all eight of them", """
            row(0, 0, 1) = 1  row(1, 0, 2) = 2  row(2, 0, 3) = 3  row(3, 0, 4) = 4  row(4, 1, 5) = 5  row(5, 1, 6) = 6
            row(6, 2, 7) = 7  row(7, 2, 8) = 8  count(0) = 8  row(8, 0, 1) = BAD  row(-1, 0, 1) = BAD
            drop(7) = 8  drop(0) = 1  count(0) = 6""");
        edge("a LANE (0 bytes, 1 shorts, 2 ints)", """
            row(0, 0, 1) = 1  row(1, 1, 1) = 1  row(2, 2, 1) = 1  row(3, 3, 1) = BAD  row(3, -1, 1) = BAD
            set(0, 0, 65536) = 0  set(1, 0, 65536) = 0  set(2, 0, 65536) = 65536  set(0, 0, 256) = 0
            set(1, 0, 256) = 256""");
        edge("0 to 40 ITEMS", """
            row(0, 0, 0) = 0  row(1, 0, 40) = 40  row(2, 0, 41) = BAD  row(2, 0, 2147483647) = BAD  count(0) = 2
            row(2, 0, -1) = SIZE  row(2, 0, -2147483648) = SIZE  status() = 4  count(0) = 2  drop(1) = 40
            drop(0) = 0""");
        edge("n ITEMS, in place of what is there: SIZE, BAD leave that", """
            row(0, 2, 2) = 2  set(0, 1, 3) = 3
            row(0, 0, -1) = SIZE  row(0, 0, 41) = BAD  row(0, 3, 1) = BAD  drop(0) = 2""");
        edge("ITEMS, 0 at first", """
            read o4,2,7,0;p1,1,1,1;u1,1; = 4  row(0, 2, 40) = 40  row(1, 2, 1) = 1
            rule(0, 0, 8, 6, 2) = 16  copy(0, 39, 1, 0, 1) = 1  rule(0, 1, 1, 2, 2) = 4""");
        edge("in place of what is there: ITEMS are 0 again, also those beyond a shorter ROW", """
            read o4,2,7,0;p1,1,1,1;u1,1; = 4  row(1, 2, 1) = 1  row(0, 2, 40) = 40
            set(0, 0, 1) = 1  set(0, 39, 1) = 1  row(0, 2, 1) = 1  rule(0, 0, 1, 2, 2) = 4  row(0, 2, 40) = 40
            copy(0, 39, 1, 0, 1) = 1  rule(0, 1, 1, 2, 2) = 4""");
        edge("a ROW that was missing: ITEMS are 0 at first again", """
            read o4,2,7,0;p1,1,1,1;u1,1; = 4  row(0, 2, 1) = 1  set(0, 0, 1) = 1  rule(0, 0, 1, 2, 2) = 9
            drop(0) = 1  row(0, 2, 1) = 1  rule(0, 0, 1, 2, 2) = 4""");
        edge("in place of what is there: another LANE", """
            row(0, 0, 1) = 1  set(0, 0, 300) = 44  row(0, 1, 1) = 1  set(0, 0, 300) = 300  row(0, 2, 1) = 1
            set(0, 0, 70000) = 70000  row(0, 1, 1) = 1  set(0, 0, 70000) = 4464""");
        setting();
        copying();
        edge("A ROW is missing from now on: how many ITEMS it had. BAD; NULL", """
            row(0, 0, 40) = 40  row(7, 0, 0) = 0  drop(0) = 40  drop(7) = 0  drop(0) = NULL  drop(7) = NULL
            status() = 1  drop(8) = BAD  drop(-1) = BAD  status() = 1  count(0) = 0""");
        edge("A ROW is missing from now on: for all that needs one", """
            read $FOUR = 4  row(0, 2, 6) = 6  row(1, 2, 6) = 6  drop(0) = 6
            set(0, 0, 0) = NULL  copy(0, 0, 1, 0, 1) = NULL  copy(1, 0, 0, 0, 1) = NULL  copy(0, 0, 0, 0, 0) = NULL
            whose(0, 0, 1) = NULL  rule(0, 0, 1, 1, 0) = NULL""");
    }

    private static void setting() {
        edge("its lowest bits, as many as the LANE has: bytes", """
            row(0, 0, 1) = 1  set(0, 0, 127) = 127  set(0, 0, 128) = -128  set(0, 0, 255) = -1  set(0, 0, 256) = 0
            set(0, 0, -128) = -128  set(0, 0, -129) = 127  set(0, 0, 2147483647) = -1  set(0, 0, -2147483648) = 0""");
        edge("its lowest bits, as many as the LANE has: shorts", """
            row(0, 1, 1) = 1  set(0, 0, 32767) = 32767  set(0, 0, 32768) = -32768  set(0, 0, 65535) = -1
            set(0, 0, 65536) = 0  set(0, 0, -32768) = -32768  set(0, 0, -32769) = 32767  set(0, 0, 2147483647) = -1
            set(0, 0, -2147483648) = 0""");
        edge("its lowest bits, as many as the LANE has: ints", """
            row(0, 2, 1) = 1  set(0, 0, 2147483647) = 2147483647  set(0, 0, -2147483648) = -2147483648
            set(0, 0, -1) = -1  set(0, 0, 0) = 0""");
        edge("BAD: ROW; NULL; PLACE", """
            row(0, 0, 40) = 40  row(7, 2, 1) = 1  row(6, 2, 0) = 0
            set(0, 0, 1) = 1  set(0, 39, 2) = 2  set(0, 40, 3) = PLACE  set(0, -1, 3) = PLACE  status() = 2
            set(0, 2147483647, 3) = PLACE  set(0, -2147483648, 3) = PLACE  set(7, 0, 3) = 3  status() = 0
            set(7, 1, 3) = PLACE  set(6, 0, 3) = PLACE  set(5, 0, 3) = NULL  status() = 1  set(8, 0, 3) = BAD
            set(-1, 0, 3) = BAD  status() = 1""");
    }

    private static void copying() {
        edge("n ITEMS of a from i on come to b from j on: a whole ROW of 40", """
            read o4,2,7,0;p1,1,1,1;u1,1; = 4  row(0, 2, 40) = 40  row(1, 2, 40) = 40  row(2, 2, 1) = 1
            set(0, 0, 1) = 1  set(0, 39, 2) = 2  copy(0, 0, 1, 0, 40) = 40
            copy(1, 0, 2, 0, 1) = 1  rule(0, 2, 1, 2, 2) = 9  copy(1, 39, 2, 0, 1) = 1  rule(0, 2, 1, 2, 2) = 6
            copy(1, 38, 2, 0, 1) = 1  rule(0, 2, 1, 2, 2) = 4
            copy(0, 0, 1, 0, 41) = PLACE  copy(0, 1, 1, 0, 40) = PLACE  copy(0, 0, 1, 1, 40) = PLACE""");
        edge("as they were ahead: within one ROW, onwards", """
            read o4,2,7,0;p1,1,1,1;u1,1; = 4  row(0, 2, 3) = 3  row(1, 2, 1) = 1
            set(0, 0, 1) = 1  set(0, 1, 2) = 2  set(0, 2, 3) = 3  copy(0, 0, 0, 1, 2) = 2
            copy(0, 0, 1, 0, 1) = 1  rule(0, 1, 1, 2, 2) = 9  copy(0, 1, 1, 0, 1) = 1  rule(0, 1, 1, 2, 2) = 9
            copy(0, 2, 1, 0, 1) = 1  rule(0, 1, 1, 2, 2) = 6""");
        edge("as they were ahead: within one ROW, backwards", """
            read o4,2,7,0;p1,1,1,1;u1,1; = 4  row(0, 2, 3) = 3  row(1, 2, 1) = 1
            set(0, 0, 1) = 1  set(0, 1, 2) = 2  set(0, 2, 3) = 3  copy(0, 1, 0, 0, 2) = 2
            copy(0, 0, 1, 0, 1) = 1  rule(0, 1, 1, 2, 2) = 6  copy(0, 1, 1, 0, 1) = 1  rule(0, 1, 1, 2, 2) = 2
            copy(0, 2, 1, 0, 1) = 1  rule(0, 1, 1, 2, 2) = 2""");
        edge("n ITEMS: none of them", """
            row(0, 1, 2) = 2  row(1, 1, 0) = 0  copy(0, 0, 1, 0, 0) = 0  copy(0, 2, 1, 0, 0) = 0
            copy(1, 0, 1, 0, 0) = 0  copy(0, 3, 1, 0, 0) = PLACE  copy(0, 0, 1, 1, 0) = PLACE
            copy(0, 0, 1, 0, 1) = PLACE  copy(1, 0, 0, 0, 1) = PLACE""");
        edge("PLACE (i, j, n below 0, or beyond an end)", """
            row(0, 1, 3) = 3  row(1, 1, 5) = 5
            copy(0, -1, 1, 0, 1) = PLACE  copy(0, 0, 1, -1, 1) = PLACE  copy(0, 0, 1, 0, -1) = PLACE  status() = 2
            copy(0, 0, 1, 0, 3) = 3  copy(0, 0, 1, 0, 4) = PLACE  copy(0, 2, 1, 4, 1) = 1  status() = 0
            copy(0, 2, 1, 4, 2) = PLACE  copy(0, 0, 1, 3, 3) = PLACE  copy(1, 0, 0, 0, 5) = PLACE
            copy(0, 2147483647, 1, 0, 1) = PLACE  copy(0, 0, 1, 2147483647, 1) = PLACE
            copy(0, 1, 1, 1, 2147483647) = PLACE  copy(0, -2147483648, 1, 0, -2147483648) = PLACE
            copy(0, 0, 1, 0, -2147483648) = PLACE""");
        edge("STORE (ROWS of two LANES)", """
            row(0, 0, 2) = 2  row(1, 1, 2) = 2  row(2, 2, 2) = 2  copy(0, 0, 1, 0, 1) = STORE
            copy(1, 0, 2, 0, 1) = STORE  copy(2, 0, 0, 0, 0) = STORE  status() = 5  copy(2, 0, 2, 1, 1) = 1
            status() = 0""");
        edge("BAD: ROWS; NULL: either one", """
            row(0, 0, 2) = 2  copy(8, 0, 0, 0, 1) = BAD  copy(0, 0, 8, 0, 1) = BAD  copy(-1, 0, 0, 0, 1) = BAD
            copy(0, 0, -1, 0, 1) = BAD  copy(8, 0, 7, 0, 1) = BAD  copy(7, 0, 8, 0, 1) = BAD  status() = 0
            copy(7, 0, 0, 0, 1) = NULL  copy(0, 0, 7, 0, 1) = NULL  copy(7, 0, 6, 0, 1) = NULL  status() = 1""");
    }

    // ---- 1: TEXTS and FAULTS

    /** A text that has a FAULT, behind a ROLL with ACTS and an image: all stays, but the tape is empty. */
    private static void faulty(String words, String text, int number, int at) {
        sentence = words;
        List<Step> ahead = steps("read $SIX  go(1)  touch(0, 0)  image(0)  row(0, 2, 2)  ask(0, 0)  set(0, 2, 0)");
        ahead.add(new Step(text, "tape", new int[0], 1, null));
        Step roll = new Step("roll() of " + text, "roll", new int[0], 1, (long) FAULTS - at);
        Counted x = new Counted();
        x.run(ahead);
        due(roll.text, x.run(roll), FAULTS - at);
        due("fault() of " + text, x.call("fault"), number);
        due("count(5) behind " + text, x.call("count", 5), 0);
        dueUnchanged(ahead, roll);
    }

    private static void texts() {
        edge("THE TAPE has at most 120 bytes", """
            119 x feed(111) = 119  feed(0) = 120  feed(0) = FULL  feed(255) = FULL  count(5) = 120
            roll() = -1000101  fault() = 1  count(5) = 0  feed(255) = 1""");
        edge("A byte (0 to 255) comes behind the tape: how many it has", """
            feed(-1) = BAD  feed(256) = BAD  feed(2147483647) = BAD  feed(-2147483648) = BAD  count(5) = 0
            feed(0) = 1  feed(255) = 2  count(5) = 2""");
        edge("the tape, empty then: a FAULT of it is not there any more", """
            tape o4,0,0,0;p1,1 = 13  roll() = -1000113  read ,1,1; = -1000100  read $BARE = 4  fault() = 1""");
        edge("a right text of 106 bytes, the longest one", """
            tape $LONGEST = 106  roll() = 12  fault() = 0  count(5) = 0  count(1) = 12  count(2) = 4  count(3) = 4
            place(0, 0) = 9  place(11, 0) = 9  place(3, 1) = 9  place(4, 1) = 0  likelihood(12) = 9
            seeker(0, 0) = 10  seeker(3, 1) = 10  go(1) = 1  nail(2) = 9  over() = -1  nail(2) = 29""");
        edge("the tape when it has 120 bytes: a FAULT behind a right text", """
            tape $LONGEST+;;;;;;;;;;;;;; = 120  feed(59) = FULL  roll() = -1000206  fault() = 1  count(1) = 0
            tape $LONGEST+uuuuuuuuuuuuuu = 120  roll() = -1000206  fault() = 3  count(1) = 0""");
        edge("the shortest right text", """
            read $BARE = 4  count(1) = 4  count(2) = 0  count(3) = 0  likelihood(4) = 0  likelihood(3) = 1
            over() = -1  go(12) = 0  nail(2) = 0  likelihood(5) = BAD""");
        edge("NUMBERS (figures, 2 at most): a 0 ahead", """
            read o04,09,00,01;p01,09,02,03;r03,01;u00,09; = 4  place(1, 0) = 9  place(3, 1) = 1  seeker(0, 1) = 9""");
        tokens();
        laws();
        ridgesAndSeekers();
        ends();
        newRoll();
    }

    private static void tokens() {
        for (int letter : new int[] {0, 10, 31, 32, 43, 45, 46, 47, 58, 60, 64, 65, 79, 90, 91, 96, 123, 127, 255}) {
            String none = String.valueOf((char) letter);
            faulty("SIGNS , and ; nothing else", none, 1, 0);
            faulty("SIGNS , and ; nothing else", "o4" + none + "0,0,0;", 1, 2);
            faulty("SIGNS , and ; nothing else", BARE + none, 1, 18);
        }
        for (char letter = 'a'; letter <= 'z'; letter++) {
            String text = BARE + letter;
            if ("rublmt".indexOf(letter) >= 0) {
                faulty("a letter that may stand there", text, 1, 19);
            } else {
                faulty("it cannot stand there", text, 1, 18);
            }
        }
        faulty("letters a to z (each by itself)", "oo4,0,0,0;", 1, 1);
        faulty("a run of three figures, at its first", "o004,0,0,0;", 1, 1);
        faulty("a run of three figures, at its first", "o4,000,0,0;", 1, 3);
        faulty("a run of three figures, at its first", BARE + "u100,1;", 1, 19);
        faulty("a run of three figures, at the end", BARE + "u100", 1, 19);
        faulty("a run of three figures: the least of one TOKEN", "o999,0,0,0;", 1, 1);
        faulty("a run of three figures where none can stand", BARE + "123", 1, 18);
        faulty("a run of more figures", "o4444,0,0,0;", 1, 1);
        faulty("two figures, not as told", "o99,0,0,0;", 2, 1);
        faulty("the first TOKEN that has one", "o3,99,999;", 2, 1);
        faulty("the first TOKEN that has one", "o4,10,;", 2, 3);
        faulty("the first TOKEN that has one", "o4,,99", 1, 3);
        faulty("of one TOKEN the least: 1, not 2", "4", 1, 0);
        faulty("of one TOKEN the least: 1, not 2", BARE + "99", 1, 18);
        faulty("of one TOKEN the least: 1, not 3", BARE + "r0,1;r1,1;r2,1;r3,1;u1,1;r", 1, 43);
    }

    private static void laws() {
        faulty("PLACES: 4 to 12", "o3,0,0,0;p1,1,1;", 2, 1);
        faulty("PLACES: 4 to 12", "o0,0,0,0;p;", 2, 1);
        faulty("PLACES: 4 to 12", "o13,0,0,0;p1,1,1,1,1,1,1,1,1,1,1,1,1;", 2, 1);
        edge("PLACES: 4 to 12", """
            read $BARE = 4  count(1) = 4  read o12,0,0,0;p1,1,1,1,1,1,1,1,1,1,1,1; = 12  count(1) = 12""");
        faulty("STEP: 0 to 9 seconds", "o4,10,0,0;p1,1,1,1;", 2, 3);
        edge("STEP: 0 to 9 seconds", """
            read o4,9,0,0;p1,1,1,1; = 4  go(1) = 1  nail(2) = 9  read $BARE = 4  go(1) = 1  nail(2) = 0""");
        faulty("OVER: 0 to 20 seconds", "o4,0,21,0;p1,1,1,1;", 2, 5);
        edge("OVER: 0 to 20 seconds", """
            read o4,0,20,0;p1,1,1,1; = 4  over() = -1  nail(2) = 20  read $BARE = 4  over() = -1  nail(2) = 0""");
        faulty("MISSING: 0 to 9", "o4,0,0,10;p1,1,1,1;", 2, 7);
        edge("MISSING: 0 to 9", "read o4,0,0,9;p1,1,1,1; = 4  likelihood(4) = 9  read $BARE = 4  likelihood(4) = 0");
        faulty("1 to 9 each: WEIGHT", "o4,0,0,0;p0,1,1,1;", 2, 10);
        faulty("1 to 9 each: WEIGHT", "o4,0,0,0;p1,1,1,0;", 2, 16);
        faulty("1 to 9 each: WEIGHT", "o4,0,0,0;p1,10,1,1;", 2, 12);
        faulty("1 to 9 each: WEIGHT", "o4,0,0,0;p1,1,1,10;", 2, 16);
        edge("1 to 9 each: WEIGHT of PLACES 0, 1, ..", """
            read o4,0,0,0;p1,9,2,8; = 4  place(0, 0) = 1  place(1, 0) = 9  place(2, 0) = 2  place(3, 0) = 8
            place(4, 0) = BAD  place(-1, 0) = BAD""");
        faulty("as many NUMBERS as PLACES: one fewer", "o4,0,0,0;p1,1,1;", 1, 15);
        faulty("as many NUMBERS as PLACES: one more", "o4,0,0,0;p1,1,1,1,1;", 1, 17);
        faulty("as many NUMBERS as PLACES: none", "o4,0,0,0;p;", 1, 10);
        faulty("parted by ,", "o4,0,0,0;p1;1,1,1;", 1, 11);
        faulty("law places: no places", "o4,0,0,0;u1,1;", 1, 9);
        faulty("law places: no law", "p1,1,1,1;", 1, 0);
        faulty("law places: twice", BARE + "p1,1,1,1;", 1, 18);
        faulty("law: twice", BARE + BARE, 1, 18);
        faulty("law: a number fewer", "o4,0,0;p1,1,1,1;", 1, 6);
        faulty("law: a number more", "o4,0,0,0,0;p1,1,1,1;", 1, 8);
    }

    private static void ridgesAndSeekers() {
        faulty("ridge: a PLACE", BARE + "r4,1;", 2, 19);
        faulty("ridge: a PLACE", BARE + "r12,1;", 2, 19);
        faulty("ridge: a PLACE of twelve", TWELVE + "r12,1;", 2, 37);
        faulty("ridge: a PLACE without a ridge", BARE + "r0,1;r0,2;", 2, 24);
        faulty("ridge: a PLACE without a ridge", BARE + "r3,1;r1,2;r03,1;", 2, 29);
        faulty("ridge: CHANCE 1 to 9, of 10", BARE + "r0,0;", 2, 21);
        faulty("ridge: CHANCE 1 to 9, of 10", BARE + "r0,10;", 2, 21);
        edge("ridge: the first and the last PLACE; CHANCE 1 to 9", """
            read $BARE+r3,9;r0,1; = 4  place(0, 1) = 1  place(1, 1) = 0  place(2, 1) = 0  place(3, 1) = 9  count(2) = 2
            read $TWELVE+r11,9; = 12  place(11, 1) = 9  place(3, 1) = 0  count(2) = 1""");
        edge("ridge: 4 at most", """
            read $BARE+r3,1;r2,2;r1,3;r0,4; = 4  count(2) = 4  place(0, 1) = 4  place(3, 1) = 1
            read $TWELVE+r0,1;r1,1;r2,1;r3,1;r4,1; = -1000156  fault() = 3  count(1) = 4""");
        faulty("a ridge more than there is room for (its letter)", TWELVE + "r0,1;r1,1;r2,1;r3,1;r4,1;", 3, 56);
        faulty("a ridge more than there is room for (its letter), whatever comes then",
                BARE + "r0,1;r1,1;r2,1;r3,1;r", 3, 38);
        faulty("a ridge more than there is room for (its letter), ahead of its PLACE",
                BARE + "r0,1;r1,1;r2,1;r3,1;r9,99;", 3, 38);
        faulty("{ ridge } { seeker }: no ridge behind a seeker", BARE + "u1,1;r0,1;", 1, 23);
        faulty("seeker: 0 to 10 both: WITH", BARE + "u11,1;", 2, 19);
        faulty("seeker: 0 to 10 both: AGAINST", BARE + "t1,11;", 2, 21);
        edge("seeker: 0 to 10 both, of 10", """
            read $BARE+u0,10;b10,0;l0,0;m10,10; = 4  seeker(0, 0) = 0  seeker(0, 1) = 10  seeker(1, 0) = 10
            seeker(1, 1) = 0  seeker(2, 0) = 0  seeker(2, 1) = 0  seeker(3, 0) = 10  seeker(3, 1) = 10
            seeker(4, 0) = BAD  seeker(-1, 0) = BAD  count(3) = 4""");
        edge("SEEKERS 0 .. 3, 4 at most: fewer are there, too", """
            read $BARE = 4  count(3) = 0  seeker(0, 0) = BAD  kind(0) = BAD  touch(0, 0) = BAD
            read $BARE+t1,2; = 4  count(3) = 1  seeker(0, 1) = 2  seeker(1, 0) = BAD""");
        faulty("a seeker more than there is room for (its letter)", BARE + "u1,1;u1,1;u1,1;u1,1;u1,1;", 3, 38);
        faulty("a seeker more than there is room for (its letter), whatever comes then",
                BARE + "u1,1;u1,1;u1,1;u1,1;t", 3, 38);
        faulty("a seeker more than there is room for, ahead of its NUMBERS",
                BARE + "u1,1;u1,1;u1,1;u1,1;b99,99;", 3, 38);
        faulty("behind 4 seekers no letter else", BARE + "u1,1;u1,1;u1,1;u1,1;r0,1;", 1, 38);
        faulty("behind 4 seekers no letter else", BARE + "u1,1;u1,1;u1,1;u1,1;x", 1, 38);
    }

    private static void ends() {
        faulty("the end: how many bytes there are: none", "", 1, 0);
        String text = "o4,1,3,2;p1,2,3,4;r1,5;r2,4;t6,3;m2,9;b8,4;u9,0;";
        for (int length = 1; length <= text.length(); length++) {
            String cut = text.substring(0, length);
            boolean whole = length >= 18 && cut.endsWith(";");
            if (whole) {
                edge("the end, where it may come", "read " + cut + " = 4  fault() = 0");
            } else {
                faulty("the end: how many bytes there are", cut, 1, length);
            }
        }
        faulty("the end too soon, behind a NUMBER that is not as told", "o1", 2, 1);
        faulty("the end too soon, behind a NUMBER of two figures", "o12", 1, 3);
        faulty("the end too soon, behind WITH", BARE + "u10", 1, 21);
        faulty("the end too soon, behind AGAINST", BARE + "u10,10", 1, 24);
    }

    private static void newRoll() {
        edge("none at first", """
            count(1) = 0  count(2) = 0  count(3) = 0  nail(0) = STATE  surest() = STATE  image(0) = STATE""");
        edge("A ROLL that is read stands in place of the one before: the nail", """
            read $SIX = 6  go(5) = 5  over() = -1  touch(0, 1) = 1  fold(3) = NONE
            read $FOUR = 4  nail(0) = 0  nail(1) = 1  nail(2) = 0  nail(3) = 0  nail(4) = 0  nail(5) = NONE""");
        edge("A ROLL that is read stands in place of the one before: PLACES, ridges, SEEKERS", """
            read $SIX = 6  10 x touch(0, 0) = 10  touch(0, 0) = FULL
            read $FOUR = 4  place(3, 0) = 4  place(4, 0) = BAD  place(2, 1) = 0  likelihood(0) = 1  likelihood(4) = 2
            likelihood(5) = BAD  kind(0) = 5  count(2) = 1  touch(0, 0) = 1""");
        edge("A ROLL that is read: no ACT can be undone", """
            read $SIX = 6  24 x over() = 1  count(4) = 24  read $SIX = 6  count(4) = 0  undo() = STATE
            over() = -1  count(4) = 1  undo() = 0  undo() = STATE""");
        edge("A ROLL that is read leaves ROWS, images, THE TRACE, status()", """
            read $SIX = 6  row(0, 2, 3) = 3  set(0, 3, 0) = PLACE  image(1) = 1  ask(0, 1) = 2
            read $FOUR = 4  count(0) = 1  status() = 2  trace(0) = 21  trace(1) = 20  restore(1) = 1  count(1) = 6""");
        edge("The number of the latest FAULT; 0 before one", """
            fault() = 0  read $BARE = 4  fault() = 0  read o3 = -1000101  fault() = 2  read o = -1000101  fault() = 1
            read $BARE+r0,1;r1,1;r2,1;r3,1;r = -1000138  fault() = 3  read $BARE = 4  fault() = 3""");
    }

    // ---- 2: TOUCHES, NEXT PLACE, ACTS

    private static void touches() {
        edge("FEEL: WITH, if WAY is 1, AGAINST, if it is -1; of one by the lamp the greater one of both", """
            read $BARE+u10,0;l10,0;l0,10;l4,4; = 4  seeker(0, 2) = 10  seeker(1, 2) = 10  seeker(2, 2) = 10
            seeker(3, 2) = 4  over() = -1  seeker(0, 2) = 0  seeker(1, 2) = 10  seeker(2, 2) = 10  seeker(3, 2) = 4""");
        edge("A touch is felt, if the end is there, by FEEL; if not, by CHANCE, without a ridge not at all", """
            read $FOUR = 4  touch(0, 1) = 1  likelihood(0) = 6  likelihood(1) = 0  likelihood(3) = 0  likelihood(4) = 0
            undo() = 0  go(1) = 1  touch(0, 1) = 1  likelihood(0) = 5  likelihood(1) = 12  likelihood(2) = 15
            likelihood(3) = 20  likelihood(4) = 10""");
        edge("A touch is not felt by what is left of 10, with a ridge, without one", """
            read $FOUR = 4  touch(0, 0) = 1  likelihood(0) = 4  likelihood(1) = 20  likelihood(4) = 20  go(1) = 1
            touch(0, 0) = 2  likelihood(0) = 20  likelihood(1) = 80  likelihood(2) = 150  likelihood(3) = 200
            likelihood(4) = 100""");
        edge("by FEEL of 10: 10 and 0 are sure", """
            read $BARE+u10,0; = 4  touch(0, 0) = 1  likelihood(0) = 0  likelihood(1) = 10  over() = -1
            touch(0, 0) = 2  likelihood(0) = 0  likelihood(1) = 100  go(1) = 3  touch(0, 0) = 3
            likelihood(3) = 1000  likelihood(0) = 0""");
        edge("10 TOUCHES at most", """
            read $SIX = 6  10 x touch(0, 0) = 10  nail(3) = 10  nail(2) = 10  touch(0, 0) = FULL  touch(1, 1) = FULL
            nail(3) = 10  nail(2) = 10  nail(4) = 0  count(4) = 10  undo() = 9  nail(3) = 9  touch(0, 0) = 10
            touch(0, 0) = FULL""");
        edge("10 TOUCHES at most: FULL with 24 ACTS forgets none", """
            read $SIX = 6  10 x touch(0, 0) = 10  14 x over() = 1  count(4) = 24  touch(0, 0) = FULL
            23 x undo() = 1  nail(3) = 1  undo() = 0  nail(3) = 0""");
        edge("10 TOUCHES at most: an image of 10, one of 9", """
            read $SIX = 6  9 x touch(0, 0) = 9  image(0) = 1  touch(0, 0) = 10  image(1) = 1  restore(0) = 1
            touch(0, 0) = 10  restore(1) = 1  touch(0, 0) = FULL  undo() = STATE""");
        edge("10 TOUCHES of the greatest LIKELIHOODS, exactly", """
            read $TWELVE+u0,1; = 12  row(0, 0, 1) = 1  10 x touch(0, 0) = 10
            likelihood(0) = 90000000000  likelihood(11) = 90000000000  likelihood(12) = 90000000000
            likely(12, 0) = 1  likely(12, 1) = 13  felt(0, 0) = 0  felt(0, 1) = 1  mean(0, 0, 1, 3, 0) = 351
            mean(0, 0, 1, 3, 1) = 1  noEnd(0, 1, 92) = NONE  noEnd(0, 1, 93) = 0  rule(0, 0, 1, 6, 0) = 0
            rule(0, 0, 1, 6, 2) = 51  pays(0, 99) = 1  surest() = 0  begin(0, 3) = 1""");
        edge("STATE: that can not be (all LIKELIHOODS would be 0): felt", """
            read $BARE+u0,10; = 4  touch(0, 1) = STATE  nail(3) = 0  nail(2) = 0  count(4) = 0  over() = -1
            touch(0, 1) = 1  over() = 1  touch(0, 1) = STATE  touch(0, 0) = 2""");
        edge("STATE: that can not be (all LIKELIHOODS would be 0): not felt", """
            read $BARE+u10,10; = 4  touch(0, 0) = 1  go(1) = 1  touch(0, 0) = 2  go(1) = 2  touch(0, 0) = 3  go(1) = 3
            touch(0, 0) = STATE  nail(3) = 3  likelihood(3) = 1000  count(4) = 6  touch(0, 1) = 4
            likelihood(3) = 10000""");
        edge("all LIKELIHOODS would be 0: none is one of them", """
            read o4,0,0,1;p1,1,1,1;u10,10;m1,1; = 4  touch(0, 0) = 1  go(1) = 1  touch(0, 0) = 2  go(1) = 2
            touch(0, 0) = 3  go(1) = 3  touch(0, 0) = 4  likelihood(4) = 10000  touch(0, 1) = STATE  likely(4, 0) = 1
            likely(4, 1) = 1  surest() = 0  seeker(1, 3) = 0  go(1) = 0  seeker(1, 3) = 1  touch(0, 0) = 5""");
        edge("all LIKELIHOODS would be 0: not, where there is a ridge", """
            read $BARE+r0,1;u0,0; = 4  touch(0, 1) = 1  likelihood(0) = 0  likelihood(1) = 1  touch(0, 1) = 2
            go(1) = 1  touch(0, 1) = STATE""");
        edge("felt (1) or not (0)", """
            read $SIX = 6  touch(0, -1) = BAD  touch(0, 2) = BAD  touch(-1, 0) = BAD  touch(4, 0) = BAD  nail(4) = 0
            touch(0, 1) = 1  nail(4) = 1  touch(0, 0) = 2  nail(4) = 0  touch(3, 1) = 3  nail(4) = 1  undo() = 2
            nail(4) = 0  undo() = 1  nail(4) = 1  undo() = 0  nail(4) = 0""");
    }

    private static void goingRound() {
        edge("round and round: from the last PLACE to 0, WAY 1", """
            read $SIX = 6  go(5) = 5  seeker(0, 3) = 0  seeker(1, 3) = 0  seeker(2, 3) = 0  go(1) = 0  nail(2) = 12
            undo() = 1  seek(0) = 0  nail(2) = 12  undo() = 1  seek(1) = 0  undo() = 1  seek(2) = 0  nail(1) = 1""");
        edge("round and round: from PLACE 0 to the last one, WAY -1", """
            read $SIX = 6  over() = -1  seeker(0, 3) = 5  seeker(1, 3) = 5  seeker(2, 3) = 5  go(1) = 5  nail(2) = 7
            undo() = 1  seek(0) = 5  nail(2) = 7  undo() = 1  seek(1) = 5  undo() = 1  seek(2) = 5  nail(1) = -1""");
        edge("round and round, of 12 PLACES", """
            read $TWELVE+u1,1; = 12  go(11) = 11  seek(0) = 0  nail(2) = 108  over() = -1  seek(0) = 11  nail(2) = 137
            go(12) = 11  nail(2) = 245  go(11) = 0  go(1) = 11  over() = 1  go(1) = 0""");
        edge("round and round, of 4 PLACES", """
            read $FOUR = 4  go(3) = 3  seek(3) = 0  go(12) = 0  go(11) = 3  go(2) = 1  over() = -1  go(2) = 3
            go(12) = 3  go(5) = 2  nail(2) = 51""");
        edge("round and round, of 5 PLACES more than twice", """
            read o5,1,0,0;p1,1,1,1,1; = 5  go(12) = 2  go(12) = 4  go(1) = 0  over() = -1  go(12) = 3  go(4) = 4
            go(10) = 4  nail(2) = 51""");
        edge("The nail GOES on by n (1 to 12)", """
            read $SIX = 6  go(0) = BAD  go(-1) = BAD  go(13) = BAD  go(2147483647) = BAD  go(-2147483648) = BAD
            nail(0) = 0  count(4) = 0  go(1) = 1  go(12) = 1  count(4) = 2""");
        edge("who turns back: if the last TOUCH was felt the other way round, from PLACE 0 to the last one", """
            read $SIX = 6  touch(1, 1) = 1  seeker(1, 3) = 5  seeker(0, 3) = 1  seeker(2, 3) = 1  seek(1) = 5
            nail(2) = 3  nail(1) = 1  seek(1) = 4""");
        edge("who turns back: from the last PLACE to 0", """
            read $SIX = 6  over() = -1  go(1) = 5  touch(1, 1) = 1  seeker(1, 3) = 0  seeker(0, 3) = 4  seek(1) = 0
            nail(1) = -1""");
        edge("who turns back: the last TOUCH, whosever; without one, or not felt, on", """
            read $SIX = 6  seeker(1, 3) = 1  touch(0, 1) = 1  seeker(1, 3) = 5  touch(0, 0) = 2  seeker(1, 3) = 1
            undo() = 1  seeker(1, 3) = 5  undo() = 0  seeker(1, 3) = 1""");
    }

    private static void nextPlaces() {
        edge("the greatest of those but the one where the nail is, of several the least", """
            read o5,1,0,9;p2,7,7,1,7;m5,5; = 5  seeker(0, 3) = 1  go(1) = 1  seeker(0, 3) = 2  go(1) = 2
            seeker(0, 3) = 1  go(2) = 4  seeker(0, 3) = 1""");
        edge("none is no PLACE to go to", """
            read o4,1,0,9;p1,1,1,2;m5,5;t5,5; = 4  seeker(0, 3) = 3  seeker(1, 3) = 3  surest() = 3  go(3) = 3
            seeker(0, 3) = 0  seeker(1, 3) = 0  surest() = 3""");
        edge("the greatest but where the nail is, though all others are 0", """
            read $BARE+m10,10; = 4  touch(0, 1) = 1  seeker(0, 3) = 1  surest() = 0  go(1) = 1  seeker(0, 3) = 0""");
        edge("where a tab is folded, if one is, and the nail is not there", """
            read $FOUR = 4  seeker(0, 3) = 3  fold(0) = NONE  seeker(0, 3) = 3  go(1) = 1  seeker(0, 3) = 0
            seeker(1, 3) = 3  fold(1) = 0  seeker(0, 3) = 3  undo() = 2  seeker(0, 3) = 0  undo() = 1  undo() = 0
            seeker(0, 3) = 3""");
        edge("a tab at the last PLACE, at the first one", """
            read $FOUR = 4  fold(3) = NONE  seek(0) = 3  nail(2) = 1  fold(0) = 3  seek(0) = 0  nail(2) = 2
            nail(5) = 0""");
        edge("STEP seconds for each PLACE between, the shorter way round: as long both ways", """
            read $FOUR = 4  fold(2) = NONE  seek(0) = 2  nail(2) = 2  fold(0) = 2  seek(0) = 0  nail(2) = 4""");
        edge("the shorter way round, of 5 PLACES", """
            read o5,3,0,0;p1,1,1,1,1;t1,1; = 5  fold(2) = NONE  seek(0) = 2  nail(2) = 6  undo() = 1  fold(3) = 2
            seek(0) = 3  nail(2) = 6  fold(4) = 3  seek(0) = 4  nail(2) = 9  fold(0) = 4  seek(0) = 0  nail(2) = 12""");
        edge("the shorter way round, of 12 PLACES; WAY is no matter", """
            read $TWELVE+t1,1; = 12  fold(6) = NONE  seek(0) = 6  nail(2) = 54  undo() = 1  fold(7) = 6  seek(0) = 7
            nail(2) = 45  undo() = 2  over() = -1  fold(5) = 7  seek(0) = 5  nail(2) = 65  undo() = 4
            fold(11) = 5  seek(0) = 11  nail(2) = 29  nail(1) = -1""");
        edge("A SEEKER sets it on his NEXT PLACE. BAD", """
            seek(0) = BAD  read $FOUR = 4  seek(-1) = BAD  seek(4) = BAD  seek(2147483647) = BAD  count(4) = 0
            seek(3) = 1  count(4) = 1""");
        edge("A tab is FOLDED: where one was (NONE). BAD", """
            read $FOUR = 4  fold(-1) = BAD  fold(4) = BAD  nail(5) = NONE  count(4) = 0  fold(3) = NONE  fold(0) = 3
            fold(0) = 0  fold(4) = BAD  nail(5) = 0  nail(2) = 0  count(4) = 3""");
    }

    private static void acts() {
        edge("STATE: none (no ACT)", """
            undo() = STATE  read $SIX = 6  undo() = STATE  over() = -1  undo() = 0  undo() = STATE  nail(1) = 1
            nail(2) = 0""");
        edge("ACTS, 24 at most are kept", """
            read $SIX = 6  23 x go(1) = 5  count(4) = 23  go(1) = 0  count(4) = 24  undo() = 23  go(1) = 0
            24 x undo() = 0  nail(2) = 0  undo() = STATE""");
        edge("of more the oldest is forgotten: the 25th ACT", """
            read $SIX = 6  touch(0, 0) = 1  24 x go(1) = 0  count(4) = 24  nail(2) = 49  24 x undo() = 0  undo() = STATE
            nail(2) = 1  nail(3) = 1  likelihood(0) = 9  likelihood(1) = 10""");
        edge("of more the oldest is forgotten: the 25th ACT is a TOUCH", """
            read $SIX = 6  go(1) = 1  23 x over() = -1  touch(0, 1) = 1  count(4) = 24  24 x undo() = 0  undo() = STATE
            nail(0) = 1  nail(1) = 1  nail(3) = 0  likelihood(0) = 3""");
        edge("of more the oldest is forgotten: the 25th ACT is a tab, is a SEEKER's", """
            read $SIX = 6  over() = -1  fold(3) = NONE  22 x go(6) = 0  fold(4) = 3  count(4) = 24  seek(0) = 5
            count(4) = 24  24 x undo() = 0  undo() = STATE  nail(1) = -1  nail(5) = 3  nail(2) = 5""");
        edge("of more the oldest is forgotten: twice round and more", """
            read o4,1,0,0;p1,1,1,1; = 4  60 x go(1) = 0  count(4) = 24  24 x undo() = 0  undo() = STATE  nail(2) = 36
            30 x go(1) = 2  24 x undo() = 0  nail(2) = 42  undo() = STATE""");
        edge("what is refused is no ACT: with 24 of them none is forgotten", """
            read $SIX = 6  24 x over() = 1  go(0) = BAD  go(13) = BAD  seek(4) = BAD  fold(6) = BAD  touch(0, 2) = BAD
            fold(-1) = BAD  count(4) = 24  24 x undo() = 0  nail(2) = 0""");
        edge("what can not be is no ACT: with 24 of them none is forgotten", """
            read $BARE+u0,0; = 4  24 x over() = 1  touch(0, 1) = STATE  count(4) = 24  24 x undo() = 0""");
        edge("each can be undone, the latest first", """
            read $FOUR = 4  touch(0, 1) = 1  go(3) = 3  over() = -1  seek(3) = 2  fold(1) = NONE
            undo() = 4  nail(5) = NONE  nail(0) = 2  undo() = 3  nail(0) = 3  nail(1) = -1  nail(2) = 7
            undo() = 2  nail(1) = 1  nail(2) = 4  undo() = 1  nail(0) = 0  nail(2) = 1  nail(4) = 1
            undo() = 0  nail(2) = 0  nail(4) = 0  likelihood(1) = 2  undo() = STATE""");
        edge("undone: a LIKELIHOOD that became 0 is what it was", """
            read $BARE+u10,10; = 4  touch(0, 1) = 1  likelihood(3) = 0  undo() = 0  likelihood(3) = 1  touch(0, 0) = 1
            likelihood(0) = 0  undo() = 0  likelihood(0) = 1""");
        edge("TURNED over: WAY", """
            read $SIX = 6  over() = -1  over() = 1  nail(1) = 1  nail(2) = 10  count(4) = 2""");
        edge("Of the nail: 0 .. 5. BAD", """
            read $SIX = 6  nail(-1) = BAD  nail(6) = BAD  nail(2147483647) = BAD  nail(-2147483648) = BAD
            nail(0) = 0  nail(5) = NONE  nail(4) = 0""");
    }

    // ---- 3: what is FORETOLD

    private static void likelihoods() {
        edge("LIKELIHOOD of a PLACE (none: PLACES). BAD", """
            likelihood(0) = BAD  read $FOUR = 4  likelihood(-1) = BAD  likelihood(0) = 1  likelihood(3) = 4
            likelihood(4) = 2  likelihood(5) = BAD  likelihood(12) = BAD  likelihood(13) = BAD
            read $TWELVE = 12  likelihood(11) = 9  likelihood(12) = 9  likelihood(13) = BAD""");
        edge("LIKELY of a PLACE (none: PLACES). BAD", """
            likely(0, 0) = BAD  read $FOUR = 4  likely(-1, 0) = BAD  likely(0, 0) = 1  likely(0, 1) = 12
            likely(4, 0) = 1  likely(4, 1) = 6  likely(5, 0) = BAD  likely(0, 2) = BAD  likely(0, -1) = BAD""");
        edge("FELT where the nail is now: with a ridge, without one, both WAYS", """
            read $FOUR = 4  felt(0, 0) = 1  felt(0, 1) = 20  go(1) = 1  felt(0, 0) = 31  felt(0, 1) = 60
            over() = -1  felt(0, 0) = 7  felt(0, 1) = 15  felt(3, 0) = 5  felt(3, 1) = 12  go(1) = 0  felt(3, 0) = 0
            felt(3, 1) = 1  felt(4, 0) = BAD  felt(-1, 0) = BAD  felt(0, 2) = BAD  felt(0, -1) = BAD""");
        edge("SUREST, of several the least; the nail is no matter", """
            surest() = STATE  read o4,0,0,9;p3,9,9,1;u10,10; = 4  surest() = 1  go(1) = 1  surest() = 1
            touch(0, 0) = 1  surest() = 2  go(1) = 2  touch(0, 0) = 2  surest() = 0  read $BARE = 4  surest() = 0
            read o4,0,0,0;p1,1,1,2; = 4  surest() = 3""");
    }

    private static void means() {
        edge("MEAN from the last PLACE, going round to PLACE 0", """
            read $FOUR = 4  mean(3, 3, 1, 1, 0) = 13  mean(3, 3, 1, 1, 1) = 3  mean(1, 3, -1, 1, 0) = 4
            mean(1, 3, -1, 1, 1) = 1""");
        edge("MEAN from PLACE 0, WAY -1, going round to the last PLACE", """
            read $FOUR = 4  mean(1, 0, -1, 1, 0) = 49  mean(1, 0, -1, 1, 1) = 10""");
        edge("MEAN: he stops at the end, when he feels it, else behind the last one: never felt", """
            read $FOUR = 4  mean(3, 0, -1, 1, 0) = 7  mean(3, 0, -1, 1, 1) = 1  mean(3, 2, -1, 2, 0) = 15
            mean(3, 2, -1, 2, 1) = 1  mean(3, 3, -1, 3, 0) = 23  mean(3, 3, -1, 3, 1) = 1""");
        edge("MEAN: he stops at the end, when he feels it: surely felt, and none behind the last one", """
            read $FOUR = 4  mean(3, 0, 1, 1, 0) = 16  mean(3, 0, 1, 1, 1) = 3  mean(3, 0, 1, 3, 0) = 8
            mean(3, 0, 1, 3, 1) = 1  read $BARE+u10,10; = 4  mean(0, 0, 1, 1, 0) = 5  mean(0, 0, 1, 1, 1) = 2
            mean(0, 3, -1, 3, 0) = 5  mean(0, 3, -1, 3, 1) = 2""");
        edge("MEAN: felt the second time round, or not at all", """
            read $BARE+u5,5; = 4  mean(0, 0, 1, 2, 0) = 39  mean(0, 0, 1, 2, 1) = 8  mean(0, 2, -1, 2, 0) = 39
            mean(0, 2, -1, 2, 1) = 8""");
        edge("MEAN: ridges aside", """
            read $BARE+r0,9;r1,9;u10,10; = 4  mean(0, 0, 1, 1, 0) = 5  mean(0, 0, 1, 1, 1) = 2""");
        edge("MEAN: n rounds (1 to 3), WAY 1, -1, a PLACE. BAD", """
            read $FOUR = 4  mean(0, 0, 1, 0, 0) = BAD  mean(0, 0, 1, 4, 0) = BAD  mean(0, 0, 0, 1, 0) = BAD
            mean(0, 0, 2, 1, 0) = BAD  mean(0, 0, -2, 1, 0) = BAD  mean(0, -1, 1, 1, 0) = BAD
            mean(0, 4, 1, 1, 0) = BAD  mean(4, 0, 1, 1, 0) = BAD  mean(-1, 0, 1, 1, 0) = BAD
            mean(0, 0, 1, 1, 2) = BAD  mean(0, 0, 1, 1, -1) = BAD""");
        edge("MEAN by LIKELIHOODS as they are; where the nail is, its WAY and 10 TOUCHES are no matter", """
            read $BARE+u5,10;l0,10; = 4  9 x touch(0, 0) = 9  go(3) = 3  over() = -1  touch(0, 1) = 10
            mean(1, 3, 1, 1, 0) = 1  mean(1, 3, 1, 1, 1) = 1  mean(1, 0, 1, 1, 0) = 4  mean(1, 0, 1, 1, 1) = 1
            mean(1, 0, -1, 3, 0) = 2  mean(1, 0, -1, 3, 1) = 1  touch(0, 0) = STATE""");
        edge("BEGIN: twice the PLACE, and 1 if WAY is -1: the least and the greatest one", """
            read o12,1,0,0;p9,1,1,1,1,1,1,1,1,1,1,1;u10,0; = 12  begin(0, 1) = 0
            read o12,1,0,0;p1,1,1,1,1,1,1,1,1,1,1,9;u0,10;u10,0; = 12  begin(0, 1) = 23  begin(1, 3) = 22""");
        edge("BEGIN: going round from the last PLACE to 0, both WAYS", """
            read o4,1,0,0;p8,1,1,9;u10,0;u0,10; = 4  begin(0, 1) = 6  begin(1, 1) = 1
            read o4,1,0,0;p9,1,1,8;u0,10; = 4  begin(0, 1) = 1""");
        edge("BEGIN: of several the first (by PLACES, WAY 1 first)", """
            read $BARE+u5,5;u0,0;u10,10;u0,5; = 4  begin(0, 3) = 0  begin(1, 1) = 0  begin(2, 2) = 0  begin(3, 1) = 1
            read o4,0,0,0;p1,2,1,2;u10,10; = 4  begin(0, 1) = 2""");
        edge("BEGIN, n rounds (1 to 3). BAD", """
            begin(0, 1) = BAD  read $FOUR = 4  begin(0, 0) = BAD  begin(0, 4) = BAD  begin(-1, 1) = BAD
            begin(4, 1) = BAD  begin(3, 1) = 4  begin(3, 3) = 4""");
    }

    private static void roundsAndTabs() {
        edge("NO END: the fewest rounds (0 to 4); NONE", """
            read o4,0,0,4;p1,1,1,1;u5,0; = 4  noEnd(0, 1, 50) = 0  noEnd(0, 1, 49) = 1  noEnd(0, 1, 34) = 1
            noEnd(0, 1, 33) = 2  noEnd(0, 1, 20) = 2  noEnd(0, 1, 19) = 3  noEnd(0, 1, 12) = 3  noEnd(0, 1, 11) = 4
            noEnd(0, 1, 6) = 4  noEnd(0, 1, 5) = NONE  noEnd(0, 1, 0) = NONE  noEnd(0, -1, 50) = 0
            noEnd(0, -1, 49) = NONE""");
        edge("NO END: no likelier than a of 100 (a 0 to 99). BAD", """
            noEnd(0, 1, 5) = BAD  read $TWELVE+u10,9; = 12  noEnd(0, 1, 99) = 0  noEnd(0, 1, 0) = 1
            noEnd(0, -1, 0) = NONE  noEnd(0, 1, -1) = BAD  noEnd(0, 1, 100) = BAD  noEnd(0, 0, 5) = BAD
            noEnd(0, 2, 5) = BAD  noEnd(0, -2, 5) = BAD  noEnd(1, 1, 5) = BAD  noEnd(-1, 1, 5) = BAD""");
        edge("NO END: MISSING is 0", """
            read $BARE+u9,10; = 4  noEnd(0, 1, 99) = NONE  noEnd(0, -1, 0) = 1""");
        edge("NO END: LIKELIHOODS as they are: it is sure already", """
            read o4,0,0,1;p1,1,1,1;u10,10; = 4  noEnd(0, 1, 0) = 1  touch(0, 0)  go(1)  touch(0, 0)  go(1)  touch(0, 0)
            noEnd(0, 1, 50) = 0  noEnd(0, 1, 49) = 1  go(1)  touch(0, 0)  noEnd(0, 1, 0) = 0""");
        edge("NO END: ridges aside", "read o4,0,0,4;p1,1,1,1;r0,9;u5,0; = 4  noEnd(0, 1, 33) = 2");
        edge("SPLINTER: width w (1 to 19), slant s (1 to 9), side 0, 1, n PLACES (0 to 40). BAD", """
            width(0, 1, 0, 0) = BAD  width(20, 1, 0, 0) = BAD  width(1, 0, 0, 0) = BAD  width(1, 10, 0, 0) = BAD
            width(1, 1, -1, 0) = BAD  width(1, 1, 2, 0) = BAD  width(1, 1, 0, -1) = BAD  width(1, 1, 0, 41) = BAD
            width(1, 1, 0, 0) = 1  width(19, 9, 1, 0) = 19  width(19, 9, 0, 40) = 0  width(1, 1, 1, 40) = 20""");
        edge("SPLINTER: s times n narrower (0 at least)", """
            width(1, 1, 0, 1) = 0  width(1, 1, 0, 2) = 0  width(19, 9, 0, 2) = 1  width(19, 9, 0, 3) = 0
            width(10, 5, 0, 1) = 5  width(10, 5, 0, 2) = 0  width(19, 1, 0, 18) = 1  width(19, 1, 0, 19) = 0""");
        edge("SPLINTER: as much wider (20 at most)", """
            width(19, 1, 1, 1) = 20  width(19, 9, 1, 1) = 20  width(1, 9, 1, 2) = 19  width(1, 9, 1, 3) = 20
            width(10, 5, 1, 1) = 15  width(10, 5, 1, 2) = 20  width(1, 1, 1, 18) = 19  width(1, 1, 1, 19) = 20""");
        edge("LOST: the one in which it is whole, or has run out, not", """
            lost(1, 1, 0) = 19  lost(1, 9, 0) = 19  lost(19, 1, 1) = 1  lost(19, 9, 1) = 1  lost(10, 5, 0) = 25
            lost(10, 5, 1) = 15  lost(19, 9, 0) = 30  lost(1, 9, 1) = 30  lost(19, 1, 0) = 190  lost(1, 1, 1) = 190""");
        edge("LOST. BAD", """
            lost(0, 1, 0) = BAD  lost(20, 1, 0) = BAD  lost(1, 0, 0) = BAD  lost(1, 10, 0) = BAD  lost(1, 1, -1) = BAD
            lost(1, 1, 2) = BAD""");
        edge("PAYS: the fewest SEEKERS who come after (0 to 99); NONE", """
            read o4,0,0,0;p3,1,1,1;u10,10; = 4  pays(0, 0) = 0  pays(0, 1) = 1  pays(0, 98) = 98  pays(0, 99) = 99
            read o4,0,0,0;p9,1,1,1;u10,10; = 4  pays(0, 1) = 2  pays(0, 49) = 98  pays(0, 50) = NONE""");
        edge("PAYS: nothing is saved", """
            read $BARE+u10,10; = 4  touch(0, 1) = 1  pays(0, 0) = 0  pays(0, 1) = NONE  pays(0, 99) = NONE""");
        edge("PAYS: folding a tab takes f seconds (0 to 99). BAD", """
            pays(0, 0) = BAD  read $FOUR = 4  pays(3, -1) = BAD  pays(3, 100) = BAD  pays(4, 1) = BAD
            pays(-1, 1) = BAD  pays(3, 0) = 0  pays(3, 99) = 23""");
    }

    private static void whose() {
        edge("WHOSE, n PLACES (1 to 6) of a ROW from i on; a ROW of 40 ITEMS", """
            read o4,0,0,0;p1,1,9,1;u1,1;b1,1;l1,1;m1,1; = 4  row(7, 0, 40) = 40
            set(7, 34, 3) = 3  set(7, 35, 0) = 0  set(7, 36, 1) = 1  set(7, 37, 2) = 2  set(7, 38, 3) = 3
            set(7, 39, 0) = 0  whose(7, 34, 6) = 7  whose(7, 39, 1) = 15  whose(7, 0, 1) = 15  whose(7, 40, 1) = PLACE
            whose(7, 35, 6) = PLACE  whose(7, -1, 1) = PLACE  whose(7, 34, 7) = BAD  whose(7, 34, 0) = BAD
            whose(8, 0, 1) = BAD  whose(-1, 0, 1) = BAD  whose(0, 0, 1) = NULL""");
        edge("WHOSE: beyond an end, the sum of i and n too large", """
            read $FOUR = 4  row(0, 2, 3) = 3  whose(0, 2147483647, 6) = PLACE  whose(0, -2147483648, 1) = PLACE
            whose(0, 3, 1) = PLACE  whose(0, 2, 2) = PLACE  status() = 2  whose(0, 2, 1) = 15  status() = 0
            row(1, 2, 0) = 0  whose(1, 0, 1) = PLACE""");
        edge("WHOSE: round and round, both WAYS", """
            read o4,0,0,0;p1,1,9,1;u1,1;b1,1;l1,1;m1,1; = 4  row(0, 2, 4) = 4  set(0, 0, 3) = 3  set(0, 2, 3) = 3
            set(0, 3, 2) = 2  whose(0, 0, 2) = 7  whose(0, 1, 2) = 0  over() = -1  whose(0, 0, 2) = 0
            whose(0, 1, 2) = 7  whose(0, 1, 3) = 7""");
        edge("WHOSE: then BAD: an ITEM that is no PLACE", """
            read o4,0,0,0;p1,1,9,1;u1,1;b1,1;l1,1;m1,1; = 4  row(0, 2, 4) = 4  set(0, 1, 1) = 1  set(0, 2, 4) = 4
            set(0, 3, -1) = -1  whose(0, 0, 2) = 7  whose(0, 0, 3) = BAD  whose(0, 2, 1) = BAD  whose(0, 3, 1) = BAD
            whose(0, 2, 2) = BAD  whose(0, 2, 3) = PLACE  status() = 2  whose(0, 3, 1) = BAD  status() = 2
            set(0, 2, -2147483648)  whose(0, 2, 1) = BAD  set(0, 2, 2147483647)  whose(0, 2, 1) = BAD
            set(0, 2, 3) = 3  whose(0, 2, 1) = 15""");
        edge("WHOSE: an ITEM that is a PLACE: the last one of 12", """
            read $TWELVE+u1,1; = 12  row(0, 1, 3) = 3  set(0, 0, 11) = 11  set(0, 2, 12) = 12  whose(0, 0, 2) = 1
            whose(0, 2, 1) = BAD  read $FOUR = 4  whose(0, 0, 1) = BAD""");
        edge("WHOSE: these go on by each such TOUCH, even if all are 0", """
            read $BARE+m10,10;u10,10; = 4  row(0, 0, 6) = 6  set(0, 1, 1)  set(0, 2, 2)  set(0, 3, 3)  set(0, 5, 1)
            whose(0, 0, 6) = 3  likelihood(0) = 1  nail(3) = 0  set(0, 5, 2)  whose(0, 0, 6) = 0
            whose(0, 0, 5) = 3""");
        edge("WHOSE: the nail being at the first, wherever it is now; nothing felt, whatever was; 10 TOUCHES", """
            read $SIX = 6  10 x touch(0, 1) = 10  go(3) = 3  row(0, 0, 6) = 6  set(0, 1, 1)  set(0, 2, 2)  set(0, 3, 3)
            set(0, 4, 4)  set(0, 5, 5)  whose(0, 0, 6) = 7  whose(0, 5, 1) = 15  nail(3) = 10  nail(0) = 3""");
        edge("WHOSE: each such TOUCH with its ridge", """
            read $BARE+r0,9;m5,5; = 4  row(0, 0, 3) = 3  set(0, 1, 1)  whose(0, 0, 3) = 1  set(0, 2, 2)
            whose(0, 0, 3) = 0  read $BARE+m5,5; = 4  whose(0, 0, 3) = 1  set(0, 2, 0)  whose(0, 0, 3) = 0""");
        edge("WHOSE: no SEEKERS, no bits", """
            read $BARE = 4  row(0, 0, 1) = 1  whose(0, 0, 1) = 0""");
    }

    private static void rules() {
        edge("RULE, n words (1 to 8) of a ROW from 0 on; m 1 to 6. BAD", """
            read $FOUR = 4  row(0, 0, 8) = 8  rule(0, 0, 0, 1, 0) = BAD  rule(0, 0, 9, 1, 0) = BAD
            rule(0, 0, 1, 0, 0) = BAD  rule(0, 0, 1, 7, 0) = BAD  rule(0, 0, 1, 1, -1) = BAD  rule(0, 0, 1, 1, 3) = BAD
            rule(-1, 0, 1, 1, 0) = BAD  rule(4, 0, 1, 1, 0) = BAD  rule(0, -1, 1, 1, 0) = BAD
            rule(0, 8, 1, 1, 0) = BAD  rule(0, 7, 1, 1, 0) = NULL  rule(0, 0, 8, 6, 2) = 11
            rule(0, 0, 1, 1, 2) = 1""");
        edge("RULE: fewer words than n: PLACE", """
            read $FOUR = 4  row(0, 0, 7) = 7  rule(0, 0, 7, 1, 2) = 1  rule(0, 0, 8, 1, 2) = PLACE  status() = 2
            row(1, 0, 0) = 0  rule(0, 1, 1, 1, 2) = PLACE  row(2, 0, 40) = 40  rule(0, 2, 8, 1, 2) = 1
            status() = 0""");
        edge("RULE: then BAD: an ITEM not 0 to 3", """
            read $FOUR = 4  row(0, 2, 8) = 8  set(0, 0, 3) = 3  set(0, 7, 4) = 4  rule(0, 0, 7, 6, 2) = 10
            rule(0, 0, 8, 6, 2) = BAD  rule(0, 0, 8, 1, 2) = BAD  set(0, 7, -1) = -1  rule(0, 0, 8, 6, 2) = BAD
            set(0, 7, 3) = 3  rule(0, 0, 8, 6, 2) = 10  set(0, 0, 4) = 4  rule(0, 0, 1, 1, 2) = BAD
            row(1, 2, 1) = 1  set(1, 0, -2147483648)  rule(0, 1, 1, 1, 2) = BAD  rule(0, 1, 2, 1, 2) = PLACE""");
        edge("RULE: on by one, by two, from the last PLACE to 0, WAY 1", """
            read $FOUR = 4  go(3) = 3  row(0, 0, 1) = 1  rule(3, 0, 1, 2, 0) = 5  rule(3, 0, 1, 2, 1) = 12
            rule(3, 0, 1, 2, 2) = 3  set(0, 0, 2) = 2  rule(3, 0, 1, 2, 0) = 1  rule(3, 0, 1, 2, 1) = 2
            rule(3, 0, 1, 2, 2) = 4  nail(0) = 3  nail(2) = 3""");
        edge("RULE: on by one, by two, from PLACE 0 to the last one, WAY -1", """
            read $FOUR = 4  over() = -1  row(0, 0, 1) = 1  rule(1, 0, 1, 2, 0) = 3  rule(1, 0, 1, 2, 1) = 8
            rule(1, 0, 1, 2, 2) = 3  set(0, 0, 2) = 2  rule(1, 0, 1, 2, 0) = 3  rule(1, 0, 1, 2, 1) = 10
            rule(1, 0, 1, 2, 2) = 4  nail(1) = -1""");
        edge("RULE: from the first again behind the last", """
            read $FOUR = 4  row(0, 0, 5) = 5  set(0, 0, 1)  set(0, 1, 3)  set(0, 2, 3)  set(0, 3, 3)
            rule(3, 0, 1, 6, 2) = 21  rule(3, 0, 2, 6, 2) = 15  rule(3, 0, 3, 6, 2) = 12  rule(3, 0, 4, 6, 2) = 12
            rule(3, 0, 5, 6, 2) = 10""");
        edge("RULE: at the latest with the m-th touch: m 1, no word is done", """
            read $FOUR = 4  row(0, 0, 1) = 1  set(0, 0, 1) = 1  rule(3, 0, 1, 1, 0) = 1  rule(3, 0, 1, 1, 1) = 12
            rule(3, 0, 1, 1, 2) = 1  over() = -1  rule(3, 0, 1, 1, 0) = 0  rule(3, 0, 1, 1, 1) = 1
            rule(3, 0, 1, 2, 0) = 1  rule(3, 0, 1, 2, 1) = 12  rule(3, 0, 1, 2, 2) = 5""");
        edge("RULE: round and round, the same PLACES again", """
            read $FOUR = 4  row(0, 0, 1) = 1  set(0, 0, 2) = 2  rule(3, 0, 1, 6, 0) = 1  rule(3, 0, 1, 6, 1) = 3
            rule(3, 0, 1, 6, 2) = 16""");
        edge("RULE: the greatest SECONDS, and behind 10 TOUCHES the greatest LIKELIHOODS", """
            read $TWELVE+u0,1; = 12  10 x touch(0, 0) = 10  over() = -1  row(0, 0, 1) = 1
            rule(0, 0, 1, 6, 0) = 3  rule(0, 0, 1, 6, 1) = 65  rule(0, 0, 1, 6, 2) = 51  set(0, 0, 3) = 3
            rule(0, 0, 1, 6, 0) = 36043  rule(0, 0, 1, 6, 1) = 1000000  rule(0, 0, 1, 6, 2) = 6
            set(0, 0, 1) = 1  rule(0, 0, 1, 6, 2) = 106  set(0, 0, 2) = 2  rule(0, 0, 1, 6, 2) = 96""");
        edge("RULE: ridges aside", """
            read $BARE+r0,9;u10,10; = 4  row(0, 0, 1) = 1  rule(0, 0, 1, 4, 0) = 1  rule(0, 0, 1, 4, 1) = 1
            rule(0, 0, 1, 1, 0) = 1  rule(0, 0, 1, 1, 1) = 4""");
    }

    /** Seeds and what they find were worked out by a script apart from the class. */
    private static void searches() {
        edge("SEARCH (SEED 1 to 999999). BAD", """
            search(0, 1, 0) = BAD  read $TWELVE+r0,1;r11,9;u5,0; = 12  search(0, 0, 0) = BAD
            search(0, 1000000, 0) = BAD  search(0, -1, 0) = BAD  search(0, 2147483647, 0) = BAD  search(0, 1, -1) = BAD
            search(0, 1, 2) = BAD  search(1, 1, 0) = BAD  search(-1, 1, 0) = BAD
            search(0, 1, 0) = 12  search(0, 1, 1) = 0  search(0, 999999, 0) = 12  search(0, 999999, 1) = 0""");
        edge("SEARCH: the end, a ridge at PLACE 0, at the last PLACE; round to PLACE 0 and on", """
            read $TWELVE+r0,1;r11,9;u5,0; = 12  search(0, 13, 0) = 1  search(0, 13, 1) = 0  search(0, 6, 0) = 12
            search(0, 6, 1) = 1  search(0, 9, 0) = 24  search(0, 9, 1) = 1  search(0, 11, 0) = 24
            search(0, 11, 1) = 0""");
        edge("SEARCH: NONE (both): neither in 40 touches", """
            read $BARE+u1,10; = 4  search(0, 13, 0) = 40  search(0, 13, 1) = 1  search(0, 520, 0) = NONE
            search(0, 520, 1) = NONE  search(0, 1, 0) = 4  search(0, 3, 0) = 22""");
        edge("SEARCH: the end is none, and there is no ridge", """
            read o4,0,0,9;p1,1,1,1;u10,10; = 4  search(0, 1, 0) = NONE  search(0, 1, 1) = NONE
            read o12,0,0,9;p1,1,1,1,1,1,1,1,1,1,1,1;u10,10; = 12  search(0, 2, 0) = NONE  search(0, 2, 1) = NONE
            search(0, 1, 0) = 8  search(0, 1, 1) = 1""");
        edge("SEARCH: the nail is at PLACE 0, WAY 1, WEIGHTS, not LIKELIHOODS, whatever was done", """
            read o4,1,1,1;p1,1,1,1;r3,1;u3,10; = 4  search(0, 4, 0) = 32  search(0, 12, 0) = 8  search(0, 12, 1) = 0
            over() = -1  go(1) = 3  10 x touch(0, 1) = 10  search(0, 4, 0) = 32  search(0, 12, 0) = 8
            search(0, 12, 1) = 0  search(0, 2, 0) = NONE  nail(0) = 3  nail(3) = 10""");
    }

    private static void images() {
        edge("An IMAGE (0, 1) is kept of the ROLL. BAD; STATE: no ROLL", """
            image(0) = STATE  image(1) = STATE  image(-1) = BAD  image(2) = BAD  read $SIX = 6  image(-1) = BAD
            image(2) = BAD  restore(0) = STATE  restore(1) = STATE  image(1) = 1  restore(0) = STATE
            restore(1) = 1""");
        edge("STATE: none was kept: of either; BAD", """
            restore(0) = STATE  restore(1) = STATE  restore(-1) = BAD  restore(2) = BAD  read $SIX = 6  go(1) = 1
            restore(0) = STATE  count(4) = 1  image(0) = 1  count(4) = 1  restore(1) = STATE  restore(2) = BAD
            count(4) = 1""");
        edge("as an IMAGE kept it (no ACT can be undone then)", """
            read $SIX = 6  24 x go(1) = 0  image(0) = 1  count(4) = 24  restore(0) = 1  count(4) = 0  undo() = STATE
            nail(2) = 48  over() = -1  undo() = 0  nail(2) = 48""");
        edge("as an IMAGE kept it: the ROLL before, all of it, more than once", """
            read $SIX = 6  go(5) = 5  over() = -1  touch(1, 1) = 1  fold(2) = NONE  image(1) = 1  read $FOUR = 4
            image(0) = 1  restore(1) = 1  count(1) = 6  count(2) = 2  count(3) = 4  kind(1) = 2  nail(0) = 5
            nail(1) = -1  nail(2) = 16  nail(3) = 1  nail(4) = 1  nail(5) = 2  likelihood(5) = 45  likelihood(6) = 0
            place(4, 1) = 6  touch(0, 0) = 2  restore(1) = 1  nail(3) = 1  likelihood(5) = 45  restore(0) = 1
            count(1) = 4  nail(5) = NONE  likelihood(4) = 2""");
        edge("An IMAGE is kept: ROWS, the tape, fault(), THE TRACE are not in it", """
            read $SIX = 6  row(0, 0, 2) = 2  ask(0, 1) = 2  image(0) = 1  row(1, 0, 1) = 1  ask(3, 0) = -91
            read o3 = -1000101  tape abc = 3  set(0, 5, 0) = PLACE  restore(0) = 1  count(0) = 2  count(5) = 3
            fault() = 2  trace(0) = 13  status() = 2""");
    }

    // ---- 3 and 4: what is asked

    private static void kinds() {
        edge("The KIND of a SEEKER, as told (1 to 5). BAD", """
            kind(0) = BAD  read $BARE+u1,1;b1,1;l1,1;m1,1; = 4  kind(-1) = BAD  kind(0) = 1  kind(1) = 2  kind(2) = 3
            kind(3) = 4  kind(4) = BAD  read $BARE+t1,1; = 4  kind(0) = 5  kind(1) = BAD""");
        edge("A SEEKER is taken as one of a KIND (0 .. 5): its number. BAD; KIND: a ROUND one, a BACK one", """
            read $BARE+u1,1;b1,1; = 4  as(0, 0) = 0  as(0, 1) = 0  as(0, 2) = KIND  as(0, 3) = KIND  as(0, 4) = KIND
            as(0, 5) = KIND  as(0, 6) = BAD  as(0, -1) = BAD  status() = 3  as(1, 0) = 1  status() = 0  as(1, 1) = 1
            as(1, 2) = 1  as(1, 3) = KIND  as(1, 4) = KIND  as(1, 5) = KIND  as(2, 0) = BAD  as(-1, 0) = BAD""");
        edge("KIND: it is no such one: by the LAMP, a LIKELIEST one, with TABS", """
            read $BARE+u1,1;l1,1;m1,1;t1,1; = 4  as(1, 0) = 1  as(1, 1) = 1  as(1, 2) = KIND  as(1, 3) = 1
            as(1, 4) = KIND  as(1, 5) = KIND  as(2, 0) = 2  as(2, 1) = KIND  as(2, 2) = KIND  as(2, 3) = KIND
            as(2, 4) = 2  as(2, 5) = KIND  as(3, 0) = 3  as(3, 1) = KIND  as(3, 2) = KIND  as(3, 3) = KIND
            as(3, 4) = 3  as(3, 5) = 3  status() = 0""");
    }

    private static void asks() {
        edge("An ASK (0, 1) of a SEEKER. BAD", """
            ask(0, 0) = BAD  read $SIX = 6  ask(0, 0) = 9  ask(0, 1) = 2  ask(0, 2) = BAD  ask(0, -1) = BAD
            ask(4, 0) = BAD  ask(-1, 0) = BAD  trace(0) = 21  trace(1) = 20  trace(2) = NONE""");
        edge("THE TRACE is empty ahead of it", """
            read $SIX = 6  trace(0) = NONE  ask(1, 0) = -17  trace(0) = 12  trace(5) = 20  trace(6) = NONE
            ask(3, 0) = -91  trace(0) = 13  trace(1) = 10  trace(2) = NONE  trace(5) = NONE""");
        edge("Number i of THE TRACE; NONE: the longest one", """
            read $SIX = 6  ask(1, 0) = -17  trace(0) = 12  trace(1) = 11  trace(2) = 10  trace(3) = 24  trace(4) = 21
            trace(5) = 20  trace(6) = NONE  trace(15) = NONE  trace(16) = NONE  trace(-1) = NONE
            trace(2147483647) = NONE  trace(-2147483648) = NONE""");
        edge("else that of the nearest KIND that it is, too: SIZE by the LAMP, MARK with TABS", """
            read $BARE+l3,4;t6,3; = 4  ask(0, 0) = -993  trace(0) = 11  trace(1) = 10  trace(2) = 22  trace(3) = 21
            trace(4) = 20  trace(5) = NONE  ask(1, 1) = 189  trace(0) = 23  trace(1) = 20  trace(2) = 14
            trace(3) = 13  trace(4) = 10  trace(5) = NONE""");
        edge("ASKS of the least and the greatest SEEKERS", """
            read $BARE+u0,0;b10,10;l10,10;t0,0; = 4  ask(0, 0) = 0  ask(0, 1) = 0  ask(1, 0) = -32  ask(1, 1) = 22
            ask(2, 0) = -978  ask(2, 1) = -988  ask(3, 0) = -200  ask(3, 1) = 203""");
        edge("THE TRACE stays, when a ROLL is read, an ACT undone, an image restored", """
            read $SIX = 6  image(0) = 1  over() = -1  ask(3, 1) = 94  undo() = 0  trace(0) = 23  trace(3) = 10
            restore(0) = 1  trace(0) = 23  read $FOUR = 4  trace(1) = 20  trace(4) = NONE""");
        edge("How many: 0 .. 5. BAD", """
            count(-1) = BAD  count(6) = BAD  count(2147483647) = BAD  count(-2147483648) = BAD
            count(0) = 0  count(5) = 0  read $SIX = 6  row(7, 0, 0) = 0  over() = -1  feed(0) = 1
            count(0) = 1  count(1) = 6  count(2) = 2  count(3) = 4  count(4) = 1  count(5) = 1""");
    }

    private static void statuses() {
        edge("0: it had none, or there was none", """
            status() = 0  row(8, 0, 0) = BAD  status() = 0  row(0, 0, 1) = 1  status() = 0  as(0, 0) = BAD
            whose(0, 0, 1) = STATE  status() = 0""");
        edge("that was not BAD, STATE, FULL: those leave it", """
            set(0, 0, 0) = NULL  status() = 1  whose(0, 0, 1) = STATE  status() = 1  120 x feed(0) = 120  feed(0) = FULL
            status() = 1  row(0, 3, 0) = BAD  row(0, 0, 41) = BAD  set(8, 0, 0) = BAD  drop(8) = BAD
            copy(0, 0, 8, 0, 0) = BAD  rule(0, 0, 1, 1, 0) = BAD  as(0, 0) = BAD  status() = 1""");
        edge("Of the latest call with a ROW, or as(): others leave it", """
            read $SIX = 6  as(0, 5) = KIND  status() = 3  touch(0, 0) = 1  go(1) = 1  over() = -1  seek(0) = 0
            fold(1) = NONE  undo() = 4  image(0) = 1  restore(0) = 1  ask(0, 0) = 9  kind(0) = 1  nail(0) = 0
            search(0, 1, 0)  pays(0, 1)  width(1, 1, 1, 1) = 2  read o = -1000101  status() = 3""");
        edge("the number of its FINDING: 1 NULL, 2 PLACE, 3 KIND, 4 SIZE, 5 STORE", """
            read $SIX = 6  drop(0) = NULL  status() = 1  row(0, 0, 1) = 1  status() = 0  set(0, 1, 0) = PLACE
            status() = 2  as(0, 2) = KIND  status() = 3  row(0, 0, -1) = SIZE  status() = 4  row(1, 1, 1) = 1
            copy(0, 0, 1, 0, 1) = STORE  status() = 5  set(0, 0, 9) = 9  status() = 0""");
        edge("a call with a ROW that had none: each of them", """
            read $SIX = 6  as(0, 2) = KIND  row(0, 0, 1) = 1  status() = 0  as(0, 2) = KIND  set(0, 0, 1) = 1
            status() = 0  as(0, 2) = KIND  copy(0, 0, 0, 0, 1) = 1  status() = 0  as(0, 2) = KIND  whose(0, 0, 1) = 15
            status() = 0  as(0, 2) = KIND  rule(0, 0, 1, 1, 2) = 1  status() = 0  as(0, 2) = KIND
            rule(0, 0, 1, 1, 0) = 7  status() = 0  as(0, 2) = KIND  drop(0) = 1  status() = 0  as(0, 2) = KIND
            as(0, 1) = 0  status() = 0""");
        edge("an ITEM that is no PLACE, no word, is BAD: that leaves it", """
            read $SIX = 6  row(0, 0, 1) = 1  set(0, 0, 6) = 6  as(0, 2) = KIND  whose(0, 0, 1) = BAD  status() = 3
            rule(0, 0, 1, 1, 0) = BAD  status() = 3""");
    }

    // ---- each argument: the least, the greatest, the ones beyond

    /** The run, a call with # for the number looked at, the least and the greatest of it that is not BAD. */
    private static void beyond(String run, String call, int least, int greatest) {
        sentence = "BAD (a number is not as told) " + call;
        for (int number : new int[] {least, greatest}) {
            Counted x = new Counted();
            x.run(steps(run));
            Step step = steps(call.replace("#", String.valueOf(number))).get(0);
            long got = x.run(step);
            boolean refused = got <= BAD && got >= FULL || got < FINDINGS && got >= FINDINGS - 5;
            due(step.text + " is not refused", refused ? 1 : 0, 0);
        }
        for (int number : new int[] {least - 1, greatest + 1, Integer.MIN_VALUE, Integer.MAX_VALUE}) {
            edge("BAD (a number is not as told)", run + "  " + call.replace("#", String.valueOf(number)) + " = BAD");
        }
    }

    private static void argumentsOfRows() {
        String run = "read $SIX  row(0, 2, 2)  row(7, 2, 2)";
        beyond(run, "row(#, 0, 1)", 0, 7);
        beyond(run, "row(0, #, 1)", 0, 2);
        beyond("row(0, 2, 2)  row(1, 2, 2)  row(2, 2, 2)  row(3, 2, 2)  row(4, 2, 2)  row(5, 2, 2)  row(6, 2, 2)  "
                + "row(7, 2, 2)", "drop(#)", 0, 7);
        beyond(run, "set(#, 0, 1)", 0, 7);
        beyond(run, "copy(#, 0, 0, 0, 1)", 0, 7);
        beyond(run, "copy(0, 0, #, 0, 1)", 0, 7);
        beyond(run, "whose(#, 0, 1)", 0, 7);
        beyond(run + "  row(1, 0, 40)", "whose(1, 0, #)", 1, 6);
        beyond(run, "rule(#, 0, 1, 1, 0)", 0, 3);
        beyond(run, "rule(0, #, 1, 1, 0)", 0, 7);
        beyond(run + "  row(1, 0, 40)", "rule(0, 1, #, 1, 0)", 1, 8);
        beyond(run, "rule(0, 0, 1, #, 0)", 1, 6);
        beyond(run, "rule(0, 0, 1, 1, #)", 0, 2);
        beyond("count(0)", "feed(#)", 0, 255);
        beyond("count(0)", "count(#)", 0, 5);
    }

    private static void argumentsOfActs() {
        String run = "read $SIX  go(1)";
        beyond(run, "touch(#, 0)", 0, 3);
        beyond(run, "touch(0, #)", 0, 1);
        beyond(run, "go(#)", 1, 12);
        beyond(run, "seek(#)", 0, 3);
        beyond(run, "fold(#)", 0, 5);
        beyond(run, "nail(#)", 0, 5);
        beyond(run, "place(#, 0)", 0, 5);
        beyond(run, "place(0, #)", 0, 1);
        beyond(run, "seeker(#, 0)", 0, 3);
        beyond(run, "seeker(0, #)", 0, 3);
        beyond(run, "likelihood(#)", 0, 6);
        beyond("read $TWELVE", "likelihood(#)", 0, 12);
        beyond("read $TWELVE", "fold(#)", 0, 11);
        beyond("read $TWELVE", "place(#, 1)", 0, 11);
        beyond(run, "image(#)", 0, 1);
        beyond(run + "  image(0)  image(1)  over()", "restore(#)", 0, 1);
    }

    private static void argumentsOfTheForetold() {
        String run = "read $SIX  go(1)  touch(0, 0)";
        beyond(run, "likely(#, 0)", 0, 6);
        beyond(run, "likely(0, #)", 0, 1);
        beyond(run, "felt(#, 0)", 0, 3);
        beyond(run, "felt(0, #)", 0, 1);
        beyond(run, "mean(#, 0, 1, 1, 0)", 0, 3);
        beyond(run, "mean(0, #, 1, 1, 0)", 0, 5);
        beyond(run, "mean(0, 0, #, 1, 0)", -1, 1);
        beyond(run, "mean(0, 0, 1, #, 0)", 1, 3);
        beyond(run, "mean(0, 0, 1, 1, #)", 0, 1);
        beyond(run, "begin(#, 1)", 0, 3);
        beyond(run, "begin(0, #)", 1, 3);
        beyond(run, "noEnd(#, 1, 5)", 0, 3);
        beyond(run, "noEnd(0, #, 5)", -1, 1);
        beyond(run, "noEnd(0, 1, #)", 0, 99);
        beyond(run, "width(#, 1, 0, 0)", 1, 19);
        beyond(run, "width(1, #, 0, 0)", 1, 9);
        beyond(run, "width(1, 1, #, 0)", 0, 1);
        beyond(run, "width(1, 1, 0, #)", 0, 40);
        beyond(run, "lost(#, 1, 0)", 1, 19);
        beyond(run, "lost(1, #, 0)", 1, 9);
        beyond(run, "lost(1, 1, #)", 0, 1);
        beyond(run, "pays(#, 1)", 0, 3);
        beyond(run, "pays(0, #)", 0, 99);
        beyond(run, "search(#, 1, 0)", 0, 3);
        beyond(run, "search(0, #, 0)", 1, 999999);
        beyond(run, "search(0, 1, #)", 0, 1);
        beyond(run, "kind(#)", 0, 3);
        beyond(run, "as(#, 0)", 0, 3);
        beyond("read $BARE+u1,1;u1,1;u1,1;t1,1;", "as(3, #)", 0, 5);
        beyond(run, "ask(#, 0)", 0, 3);
        beyond(run, "ask(0, #)", 0, 1);
        edge("WAY 1, -1: 0 is none", "read $SIX = 6  mean(0, 0, 0, 1, 0) = BAD  noEnd(0, 0, 5) = BAD");
    }

    public static void main(String[] args) {
        for (Method method : TapeEnd.class.getMethods()) {
            if (method.getDeclaringClass() == TapeEnd.class) {
                METHODS.put(method.getName(), method);
            }
        }
        terms();
        rows();
        texts();
        touches();
        goingRound();
        nextPlaces();
        acts();
        likelihoods();
        means();
        roundsAndTabs();
        whose();
        rules();
        searches();
        images();
        kinds();
        asks();
        statuses();
        argumentsOfRows();
        argumentsOfActs();
        argumentsOfTheForetold();
        System.out.println(wrong == 0 ? asked + " answers are as due" : wrong + " answers are not as due");
        if (wrong != 0) {
            System.exit(1);
        }
    }
}
