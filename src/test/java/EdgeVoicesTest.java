import java.util.function.Consumer;

/** Boundary cases of promises 26 and 27 and of terms 4, each a test of its own. */
public final class EdgeVoicesTest extends Edge {
    private static final int ASKS = 0;
    private static final int NODS = 1;
    private static final int ECHOES = 2;
    private static final int PARTS = 3;

    public static void main(String[] args) {
        promise26();
        promise26least();
        promise26parted();
        promise26traces();
        promise26wraps();
        promise26cut();
        promise27();
        promise27parted();
        Due.end("EdgeVoicesTest");
    }

    private static void promise26() {
        beyond("26 voice: step", Edge::some, (x, v) -> x.voice(v, ASKS, 5), -1, 7);
        beyond("26 voice: step of twenty", Edge::full, (x, v) -> x.voice(v, PARTS, 5), -1, 20);
        beyond("26 voice: step of none", Edge::nothing, (x, v) -> x.voice(v, ASKS, 5), -1, 0);
        beyond("26 voice: voice", Edge::some, (x, v) -> x.voice(0, v, 5), -1, 4);
        beyond("26 voice: voice, ahead of PARTED", judges(0), (x, v) -> x.voice(0, v, 5), -1, 4);
        gives("26 voice: the first voice of the first", Edge::some, x -> x.voice(0, ASKS, 5), 5);
        gives("26 voice: the last voice of the last", Edge::some, x -> x.voice(6, PARTS, 13), -2);
        gives("26 voice: of the twentieth", Edge::full, x -> x.voice(19, ECHOES, 5), (5 + 1 + 19) * -2 - 9);
        for (int v : new int[] {BEYOND, NONE, STATE, FULL, KIND, PARTED, MIN, MAX}) {
            gives("26 voice: any number, no ERROR " + v, judges(0), x -> x.voice(0, ASKS, v), v);
        }
        gives("26 voice: PARTED is no ERROR, where nothing parts", judges(5), x -> x.voice(0, PARTS, PARTED), PARTED / 5);
    }

    /** Each VOICE of each KIND at 0, by the first STEP and the least m. */
    private static void promise26least() {
        int[][] voices = {{0, 0, 0}, {-4, -8, -8}, {0, 0, 0}, {0, 0, 0}, {-12, -24, -24}, {0, -2, -2}, {9, 18, 18}};
        for (int kind = 0; kind < 7; kind++) {
            int km = 10 * kind;
            for (int voice = ASKS; voice <= ECHOES; voice++) {
                int sounded = voice;
                gives("26 voice " + voice + " of KIND " + kind + ": 0, with k 0 and m 0", judges(km),
                        x -> x.voice(0, sounded, 0), voices[kind][voice]);
            }
        }
    }

    /** A judge on STEP 3; k is 3. */
    private static Consumer<StairCourt> onThird(int km) {
        return judges(0, 0, 0, km);
    }

    private static void promise26parted() {
        for (int kind = 0; kind < 7; kind++) {
            int km = 10 * kind + 3;
            // Parted ahead too, so that THE TRACE is the same behind both.
            Consumer<StairCourt> parted = with(onThird(km), x -> x.voice(3, PARTS, 5));
            for (int number : new int[] {5, 0, MIN, MAX}) {
                refused("26 PARTED: KIND " + kind + ", " + number, parted, x -> x.voice(3, PARTS, number), PARTED);
            }
            gives("26 PARTED: KIND " + kind + " asks all the same", parted, x -> x.voice(3, ASKS, 5),
                    new int[] {8, 4, 8, 8, 12, 8, 9}[kind]);
            int[] above = {7, 7 + 2 * (1 + 3 - 4), 7, 7, 7 + 2 * 3 * (1 + 3 - 4), 7, 7};
            gives("26 parts: KIND " + kind + " by 1", onThird(km + 1), x -> x.voice(3, PARTS, 7), above[kind]);
            gives("26 parts: KIND " + kind + " by -1", onThird(km - 1), x -> x.voice(3, PARTS, 7), above[kind] - 14);
        }
        refused("26 PARTED: the first STEP with 0", with(judges(0), x -> x.voice(0, PARTS, 1)), x -> x.voice(0, PARTS, 1), PARTED);
        refused("26 PARTED: STEP 9 with 9", with(steps(9), x -> x.step(9)).andThen(x -> x.voice(9, PARTS, 1)),
                x -> x.voice(9, PARTS, 1), PARTED);
        gives("26 parts: STEP 9 with 0", steps(10), x -> x.voice(9, PARTS, 19), -2);
        gives("26 parts: STEP 0 with 9", judges(9), x -> x.voice(0, PARTS, 19), 2);
        gives("26 parts: STEP 19 with 0", steps(20), x -> x.voice(19, PARTS, 38), -2);
    }

    /** PARTED changes THE TRACE, and nothing else. */
    private static void promise26traces() {
        StairCourt x = made(Edge::some);
        x.become(3, 33);
        x.voice(0, ASKS, 1);
        due("26 PARTED: answered", x.voice(3, PARTS, 5), PARTED);
        due("26 PARTED: told", x.told(6), 1);
        due("26 PARTED: told of nothing else", x.told(1) + x.told(2) + x.told(3) + x.told(4) + x.told(5), 1);
        due("26 PARTED: THE TRACE", x.body(0), 13);
        due("26 PARTED: THE TRACE alone", x.count(5), 1);
        due("26 PARTED: parted again", x.voice(3, PARTS, 5), PARTED);
        due("26 PARTED: told again", x.told(6), 2);
        due("26 PARTED: KIND", x.stepIs(3, 0), 3);
        due("26 PARTED: m", x.stepIs(3, 1), 3);
        due("26 PARTED: HEARD", x.stepIs(3, 2), 0);
    }

    private static void wraps(String edge, int km, int voice, int number, int want) {
        gives("26 wraps: " + edge + " by " + number, onThird(km), x -> x.voice(3, voice, number), want);
    }

    private static void promise26wraps() {
        wraps("10, x + k", 5, ASKS, MAX, MIN + 2);
        wraps("10, x + k", 5, ASKS, MAX - 3, MAX);
        wraps("10, x + k", 5, ASKS, MAX - 2, MIN);
        wraps("11, asks * 2", 5, NODS, (1 << 30) - 4, MAX - 1);
        wraps("11, asks * 2", 5, NODS, (1 << 30) - 3, MIN);
        wraps("11, asks * 2", 5, NODS, MIN, 6);
        wraps("12, nods - m", 5, ECHOES, (1 << 30) - 3, MAX - 4);
        wraps("13, MIN by 1", 4, PARTS, MIN, MIN);
        wraps("13, MIN by -1", 2, PARTS, MIN, MIN);
        wraps("13, MAX by -1", 2, PARTS, MAX, MIN + 1);
        wraps("20, asks - 4", 15, ASKS, MIN, MIN - 1);
        wraps("20, asks - 4", 15, ASKS, MIN + 1, MIN);
        Consumer<StairCourt> strict9 = judges(0, 0, 0, 0, 0, 0, 0, 0, 19);
        gives("26 wraps: 21, parts + nods(1) by MAX", strict9, x -> x.voice(8, PARTS, MAX), MAX + 10);
        wraps("21, parts + nods(1) by 1", 14, PARTS, MIN, MIN);
        Consumer<StairCourt> strict0 = judges(10, 10);
        gives("26 wraps: 21, parts + nods(1) by -1 of MAX", strict0, x -> x.voice(1, PARTS, MAX), MAX - 2);
        wraps("30, 0 - nods", 25, NODS, (1 << 30) - 3, MIN);
        wraps("30, 0 - nods", 25, NODS, (1 << 30) - 4, MIN + 2);
        wraps("50, asks * 3", 45, ASKS, 715827883 + 1, MIN + 1);
        wraps("50, asks * 3", 45, ASKS, 715827882 + 1, MAX - 1);
        wraps("51, echoes ^ k", 45, ECHOES, 0, (3 - 4) * 3 * 2 - 5 ^ 3);
        wraps("60, x + 1", 55, NODS, MAX, -((MIN + 3) * 2));
        wraps("60, x + 1", 55, NODS, MAX - 1, -((MAX + 3) * 2));
        wraps("71, nods + m", 65, NODS, MAX, 18 + 5);
        wraps("70, 9", 65, ASKS, MIN, 9);
    }

    /** Quotients are cut toward 0. */
    private static void promise26cut() {
        gives("26 cut: 13, 7 by 2", onThird(5), x -> x.voice(3, PARTS, 7), 3);
        gives("26 cut: 13, -7 by 2", onThird(5), x -> x.voice(3, PARTS, -7), -3);
        gives("26 cut: 13, 7 by -2", onThird(1), x -> x.voice(3, PARTS, 7), -3);
        gives("26 cut: 13, -7 by -2", onThird(1), x -> x.voice(3, PARTS, -7), 3);
        gives("26 cut: 13, 1 by 2", onThird(5), x -> x.voice(3, PARTS, 1), 0);
        gives("26 cut: 13, -1 by 2", onThird(5), x -> x.voice(3, PARTS, -1), 0);
        gives("26 cut: 13, 0 by 2", onThird(5), x -> x.voice(3, PARTS, 0), 0);
        gives("26 cut: 40, 1 by 2", onThird(35), x -> x.voice(3, ECHOES, 1), 1);
        gives("26 cut: 40, -1 by 2", onThird(35), x -> x.voice(3, ECHOES, -1), 1);
        gives("26 cut: 40, -2 by 2", onThird(35), x -> x.voice(3, ECHOES, -2), -1);
        gives("26 cut: 40, MIN by 2", onThird(35), x -> x.voice(3, ECHOES, MIN), MIN + 1);
        gives("26 cut: 40, MAX by 2", onThird(35), x -> x.voice(3, ECHOES, MAX), ((1 << 30) + 2) * 2 - 5);
    }

    private static void traces(String edge, Consumer<StairCourt> state, int... bodies) {
        looks("27 TRACE: " + edge + ", how many", state, x -> x.count(5), bodies.length);
        for (int i = 0; i < bodies.length; i++) {
            int place = i;
            looks("27 TRACE: " + edge + ", body " + i, state, x -> x.body(place), bodies[i]);
        }
        refused("27 TRACE: " + edge + ", no more,", state, (x, i) -> x.body(i), NONE, bodies.length);
    }

    /** THE TRACE holds the first 30; the longest there are have six. */
    private static void promise27() {
        refused("27 body: none of THE TRACE,", Edge::some, (x, i) -> x.body(i), NONE, -1, 6, 7, 29, 30, 31, MIN, MAX);
        refused("27 body: none yet,", Edge::nothing, (x, i) -> x.body(i), NONE, -1, 0, 1, MIN, MAX);
        looks("27 body: the first", Edge::some, x -> x.body(0), 51);
        looks("27 body: the last", Edge::some, x -> x.body(5), 10);
        traces("none yet", Edge::nothing);
        traces("the shortest", with(onThird(5), x -> x.voice(3, ASKS, 1)), 10);
        traces("the shortest of its own", with(onThird(65), x -> x.voice(3, ASKS, 1)), 70);
        traces("the longest", with(onThird(45), x -> x.voice(3, ECHOES, 1)), 51, 12, 11, 50, 20, 10);
        traces("the longest of parts, left first", with(onThird(45), x -> x.voice(3, PARTS, 1)), 21, 13, 11, 50, 20, 10);
        traces("the longest of a CHILD", with(onThird(55), x -> x.voice(3, ECHOES, 1)), 12, 60, 30, 11, 10);
        Consumer<StairCourt> longer = with(onThird(45), x -> x.voice(3, ECHOES, 1));
        traces("a shorter one behind the longest", with(longer, x -> x.voice(3, ASKS, 1)), 50, 20, 10);
        traces("the longest behind itself", with(longer, x -> x.voice(3, ECHOES, 1)), 51, 12, 11, 50, 20, 10);
        traces("BEYOND leaves it", with(longer, x -> x.voice(4, ECHOES, 1)), 51, 12, 11, 50, 20, 10);
        traces("BEYOND of a voice leaves it", with(longer, x -> x.voice(3, 4, 1)), 51, 12, 11, 50, 20, 10);
        traces("restore leaves it", with(onThird(45), x -> x.image()).andThen(x -> x.voice(3, ASKS, 1))
                .andThen(x -> x.restore()), 50, 20, 10);
    }

    /** BODIES of a voice() that PARTED; behind 13 none begins any more: see NOTES.md. */
    private static void promise27parted() {
        int[][] bodies = {{13}, {21, 13}, {13}, {13}, {21, 13}, {13}, {13}};
        for (int kind = 0; kind < 7; kind++) {
            int km = 10 * kind + 3;
            traces("PARTED, KIND " + kind, with(onThird(km), x -> x.voice(3, PARTS, 1)), bodies[kind]);
            Consumer<StairCourt> longer = judges(0, 0, 0, km, 40).andThen(x -> x.voice(4, ECHOES, 1));
            traces("PARTED behind the longest, KIND " + kind, with(longer, x -> x.voice(3, PARTS, 1)), bodies[kind]);
        }
        traces("behind PARTED", with(onThird(43), x -> x.voice(3, PARTS, 1)).andThen(x -> x.voice(3, ASKS, 1)), 50, 20, 10);
    }
}
