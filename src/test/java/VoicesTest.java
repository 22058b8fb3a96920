/** Promises 26 and 27: VOICES and THE TRACE. */
public final class VoicesTest extends Promise {
    public static void main(String[] args) {
        asks();
        nods();
        echoes();
        parts();
        promise26errors();
        promise26wraps();
        promise27();
        promise27parted();
        Due.end("VoicesTest");
    }

    /** Step 3 with m 5 in each KIND: k is 3. */
    private static StairCourt one(int kind) {
        return Due.court(0, 0, 0, 10 * kind + 5);
    }

    private static void sounds(int kind, int voice, int x, int want, int... bodies) {
        StairCourt c = one(kind);
        String call = "kind " + kind + ", voice " + voice;
        due(call, c.voice(3, voice, x), want);
        traceIs(c, call, bodies);
    }

    private static void asks() {
        sounds(0, 0, 7, 10, 10);
        sounds(1, 0, 7, 6, 20, 10);
        sounds(2, 0, 7, 10, 10);
        sounds(3, 0, 7, 10, 10);
        sounds(4, 0, 7, 18, 50, 20, 10);
        sounds(5, 0, 7, 10, 10);
        sounds(6, 0, 7, 9, 70);
    }

    private static void nods() {
        sounds(0, 1, 7, 20, 11, 10);
        sounds(1, 1, 7, 12, 11, 20, 10);
        sounds(2, 1, 7, -20, 30, 11, 10);
        sounds(3, 1, 7, 20, 11, 10);
        sounds(4, 1, 7, 36, 11, 50, 20, 10);
        sounds(5, 1, 7, -22, 60, 30, 11, 10);
        sounds(6, 1, 7, 23, 71, 11, 70);
    }

    private static void echoes() {
        sounds(0, 2, 7, 15, 12, 11, 10);
        sounds(1, 2, 7, 7, 12, 11, 20, 10);
        sounds(2, 2, 7, -25, 12, 30, 11, 10);
        sounds(3, 2, 7, 7, 40, 12, 11, 10);
        sounds(3, 2, -7, -5, 40, 12, 11, 10);
        sounds(4, 2, 7, 31 ^ 3, 51, 12, 11, 50, 20, 10);
        sounds(5, 2, 7, -27, 12, 60, 30, 11, 10);
        sounds(6, 2, 7, 18, 12, 71, 11, 70);
    }

    private static void parts() {
        sounds(0, 3, 7, 3, 13);
        sounds(0, 3, -7, -3, 13);
        sounds(1, 3, 7, 3, 21, 13, 11, 20, 10);
        sounds(2, 3, 7, 3, 13);
        sounds(3, 3, 7, 3, 13);
        sounds(4, 3, 7, 3, 21, 13, 11, 50, 20, 10);
        sounds(5, 3, 7, 3, 13);
        sounds(6, 3, 7, 3, 13);
        // A number by which STRICT's and DEAF's nods(1) show: m - k below 0.
        StairCourt x = Due.court(0, 0, 11, 41, 41);
        due("STRICT", x.voice(2, 3, 9), -9 + (1 + 2 - 4) * 2);
        due("DEAF", x.voice(4, 3, 9), -3 + (1 + 4 - 4) * 3 * 2);
    }

    private static void promise26errors() {
        StairCourt x = Due.court(0, 11, 22, 33, 44, 55, 66);
        due("voice ahead", x.voice(4, 0, 5), (5 + 4 - 4) * 3);
        for (int i = 0; i < 7; i++) {
            due("parted " + i, x.voice(i, 3, 5), PARTED);
        }
        due("no step", x.voice(7, 0, 5), BEYOND);
        due("no step -1", x.voice(-1, 3, 5), BEYOND);
        due("no voice", x.voice(0, 4, 5), BEYOND);
        due("no voice -1", x.voice(0, -1, 5), BEYOND);
        Due.toldAre(x, 4, 0, 0, 0, 0, 7);
        x.become(0, 5);
        due("not parted", x.voice(0, 3, 11), 2);
        due("number like an ERROR", x.voice(0, 0, BEYOND), BEYOND);
        Due.toldAre(x, 4, 0, 0, 0, 0, 7);
    }

    private static void promise26wraps() {
        StairCourt x = Due.court(0, 0, 1);
        due("MIN by -1", x.voice(2, 3, MIN), MIN);
        x.become(2, 3);
        due("MIN by 1", x.voice(2, 3, MIN), MIN);
        x.become(2, 1);
        due("MAX and 2", x.voice(2, 0, MAX), MIN + 1);
        due("twice", x.voice(2, 1, MAX), 2);
    }

    private static void promise27() {
        StairCourt x = one(4);
        due("none yet", x.body(0), NONE);
        x.voice(3, 2, 1);
        int[] bodies = {51, 12, 11, 50, 20, 10};
        for (int i = 0; i < 6; i++) {
            due("body " + i, x.body(i), bodies[i]);
        }
        due("none -1", x.body(-1), NONE);
        due("none 6", x.body(6), NONE);
        due("none MIN", x.body(MIN), NONE);
        due("none MAX", x.body(MAX), NONE);
        x.voice(0, 0, 1);
        due("the latest", x.body(0), 10);
        due("the latest alone", x.body(1), NONE);
        Due.toldAre(x, 0, 6, 0, 0, 0, 0);
    }

    /** The BODIES of a voice() that PARTED began, too; behind that none does. */
    private static void promise27parted() {
        StairCourt x = Due.court(0, 11, 22, 33, 44, 55, 66);
        int[][] bodies = {{13}, {21, 13}, {13}, {13}, {21, 13}, {13}, {13}};
        for (int i = 0; i < 7; i++) {
            String call = "parted " + i;
            due(call + ": longer ahead", x.voice(4, 2, 0), -4 ^ 4);
            due(call + ": longer ahead, bodies", x.count(5), 6);
            due(call, x.voice(i, 3, 5), PARTED);
            traceIs(x, call, bodies[i]);
        }
        x.voice(4, 3, 5);
        due("no step", x.voice(7, 0, 5), BEYOND);
        due("no voice", x.voice(0, 4, 5), BEYOND);
        traceIs(x, "BEYOND changes nothing", 21, 13);
        due("not parted any more", x.voice(1, 0, 5), 2);
        traceIs(x, "the latest one", 20, 10);
        x.image();
        due("parts without PARTED", x.become(1, 12), 1);
        due("parts, STRICT", x.voice(1, 3, 5), 5 + (1 + 1 - 4) * 2);
        traceIs(x, "parts, STRICT", 21, 13, 11, 20, 10);
        x.become(1, 11);
        x.voice(1, 3, 5);
        x.restore();
        traceIs(x, "no IMAGE holds THE TRACE", 21, 13);
    }

    private static void traceIs(StairCourt x, String call, int... bodies) {
        due(call + ": bodies", x.count(5), bodies.length);
        for (int i = 0; i < bodies.length; i++) {
            due(call + ": body " + i, x.body(i), bodies[i]);
        }
        due(call + ": no more", x.body(bodies.length), NONE);
    }
}
