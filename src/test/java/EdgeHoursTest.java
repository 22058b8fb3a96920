import java.util.function.Consumer;

/** Boundary cases of promises 17 to 19, each a test of its own. */
public final class EdgeHoursTest extends Edge {
    public static void main(String[] args) {
        promise17();
        promise17state();
        promise17legs();
        promise18();
        promise18state();
        promise18falls();
        promise18who();
        promise18draws();
        promise19();
        Due.end("EdgeHoursTest");
    }

    private static void promise17() {
        beyond("17 hours: n", Edge::some, (x, n) -> x.hours(n), 0, 49);
        refused("17 hours: n", Edge::some, (x, n) -> x.hours(n), BEYOND, -1, 50);
        gives("17 hours: the fewest", Edge::nothing, x -> x.hours(1), 1);
        gives("17 hours: the most", Edge::nothing, x -> x.hours(48), 48);
        looks("17 hours: HOUR is 0 at first", Edge::nothing, x -> x.count(2), 0);
        looks("17 hours: HOUR by the fewest", with(Edge::nothing, x -> x.hours(1)), x -> x.count(2), 1);
        looks("17 hours: HOUR by the most", with(Edge::nothing, x -> x.hours(48)), x -> x.count(2), 48);
        looks("17 hours: z stays", with(Edge::nothing, x -> x.hours(48)), x -> x.count(6), 1);
    }

    private static void promise17state() {
        beyond("17 hours: n, ahead of STATE", atHour(9999), (x, n) -> x.hours(n), 0, 49);
        refused("17 hours: above 9999, 9999 and", atHour(9999), (x, n) -> x.hours(n), STATE, 1, 2, 48);
        refused("17 hours: above 9999, 9998 and", atHour(9998), (x, n) -> x.hours(n), STATE, 2, 48);
        refused("17 hours: above 9999, 9952 and", atHour(9952), (x, n) -> x.hours(n), STATE, 48);
        gives("17 hours: 9998 and 1", atHour(9998), x -> x.hours(1), 9999);
        gives("17 hours: 9951 and 48", atHour(9951), x -> x.hours(48), 9999);
        gives("17 hours: 9952 and 47", atHour(9952), x -> x.hours(47), 9999);
        gives("17 hours: 9950 and 48", atHour(9950), x -> x.hours(48), 9998);
        gives("17 hours: once more behind restore()", with(Edge::nothing, x -> x.image()).andThen(atHour(9999))
                .andThen(x -> x.restore()), x -> x.hours(48), 48);
    }

    private static void legs(String edge, int steps, int at, int legs, int hours, int want) {
        Consumer<StairCourt> state = steps(steps).andThen(x -> x.carry(0, at)).andThen(x -> x.rests(0, legs));
        looks("17 LEGS: " + edge + " AT " + at, with(state, x -> x.hours(hours)), x -> x.personIs(0, 1), want);
        looks("17 LEGS: one stays AT " + at, with(state, x -> x.hours(hours)), x -> x.personIs(0, 0), at);
    }

    private static void promise17legs() {
        legs("5 divides 0,", 20, 0, 3, 1, 4);
        legs("5 doesn't divide", 20, 1, 3, 48, 3);
        legs("5 doesn't divide", 20, 4, 3, 48, 3);
        legs("5 divides", 20, 5, 3, 1, 4);
        legs("5 doesn't divide", 20, 6, 3, 48, 3);
        legs("5 doesn't divide", 20, 9, 3, 48, 3);
        legs("5 divides", 20, 10, 3, 2, 5);
        legs("5 doesn't divide", 20, 14, 3, 48, 3);
        legs("5 divides", 20, 15, 3, 48, 51);
        legs("5 doesn't divide", 20, 16, 3, 48, 3);
        legs("5 doesn't divide", 20, 19, 3, 48, 3);
        // AT tells UP by the number of the STEP that would be next: see NOTES.md.
        legs("UP, 5 divides", 20, 20, 3, 1, 4);
        legs("UP, 5 divides", 5, 5, 3, 1, 4);
        legs("UP, 5 doesn't divide", 4, 4, 3, 1, 3);
        legs("none, one more", 20, 0, 0, 1, 1);
        legs("998, one more", 20, 0, 998, 1, 999);
        legs("999, held", 20, 0, 999, 1, 999);
        legs("998, held behind one more", 20, 0, 998, 2, 999);
        legs("952, the most by 48", 20, 5, 951, 48, 999);
        legs("953, held by 48", 20, 5, 952, 48, 999);
        looks("17 LEGS: of the fifth of PEOPLE", with(Edge::full, x -> x.carry(4, 15)).andThen(x -> x.hours(1)),
                x -> x.personIs(4, 1), 5);
    }

    private static void promise18() {
        beyond("18 loose: n", Edge::some, (x, n) -> x.loose(n), 0, 31);
        refused("18 loose: n", Edge::some, (x, n) -> x.loose(n), BEYOND, -1, 48);
        gives("18 loose: the fewest", Edge::nothing, x -> x.loose(1), 0);
        gives("18 loose: the most", Edge::nothing, x -> x.loose(30), 0);
        looks("18 loose: HOUR by the fewest", with(Edge::nothing, x -> x.loose(1)), x -> x.count(2), 1);
        looks("18 loose: HOUR by the most", with(Edge::nothing, x -> x.loose(30)), x -> x.count(2), 30);
    }

    private static void promise18state() {
        beyond("18 loose: n, ahead of STATE", atHour(9999), (x, n) -> x.loose(n), 0, 31);
        refused("18 loose: above 9999, 9999 and", atHour(9999), (x, n) -> x.loose(n), STATE, 1, 2, 30);
        refused("18 loose: above 9999, 9998 and", atHour(9998), (x, n) -> x.loose(n), STATE, 2, 30);
        refused("18 loose: above 9999, 9970 and", atHour(9970), (x, n) -> x.loose(n), STATE, 30);
        gives("18 loose: 9998 and 1, one goes UP", atHour(9998), x -> x.loose(1), 0);
        looks("18 loose: 9998 and 1, HOUR", with(atHour(9998), x -> x.loose(1)), x -> x.count(2), 9999);
        looks("18 loose: 9969 and 30, HOUR", with(atHour(9969), x -> x.loose(30)), x -> x.count(2), 9999);
        looks("18 loose: 9970 and 29, HOUR", with(atHour(9970), x -> x.loose(29)), x -> x.count(2), 9999);
        // The words are said ahead of the hour: the DEAF hears not yet.
        Consumer<StairCourt> deaf = with(atHour(11), x -> x.become(0, 40)).andThen(x -> Due.text(x, 0, "1"));
        gives("18 loose: words are said ahead of the HOUR 12", deaf, x -> x.loose(1), 1);
    }

    /** Nobody is content with any word. */
    private static Consumer<StairCourt> heedless(int steps) {
        return steps(steps).andThen(x -> Due.text(x, 0, "0"));
    }

    private static void promise18falls() {
        gives("18 loose: AT 0 one stays, which counts", heedless(1), x -> x.loose(1), 1);
        gives("18 loose: falls by the most HOURS", heedless(1), x -> x.loose(30), 30);
        gives("18 loose: falls of five", with(heedless(1), x -> x.person(9) + x.person(9) + x.person(9) + x.person(9)),
                x -> x.loose(30), 150);
        gives("18 loose: no fall, UP by the first", steps(1), x -> x.loose(30), 0);
        gives("18 loose: none by one who is CONTENT with all", steps(20), x -> x.loose(9), 0);
        looks("18 loose: down 2", with(heedless(5), x -> x.carry(0, 4)).andThen(x -> x.loose(1)), x -> x.personIs(0, 0), 2);
        looks("18 loose: down 2, 0 at least", with(heedless(5), x -> x.carry(0, 1)).andThen(x -> x.loose(1)),
                x -> x.personIs(0, 0), 0);
        gives("18 loose: LEGS rest by the HOUR", with(heedless(1), x -> x.rests(0, 1)), x -> x.loose(30), 30);
        looks("18 loose: one LEG, AT 0, rests", with(heedless(1), x -> x.rests(0, 1)).andThen(x -> x.loose(30)),
                x -> x.personIs(0, 1), 1);
        gives("18 loose: LEGS end off the landings", with(heedless(20), x -> x.rests(0, 1)).andThen(x -> x.carry(0, 9)),
                x -> x.loose(30), 1);
        gives("18 loose: no LEGS at first, AT 0", with(heedless(1), x -> x.rests(0, 0)), x -> x.loose(30), 29);
        looks("18 loose: 999 LEGS, one said, one rested", with(heedless(1), x -> x.rests(0, 999)).andThen(x -> x.loose(1)),
                x -> x.personIs(0, 1), 999);
    }

    private static int drawn(int z, int times) {
        int drawn = z;
        for (int i = 0; i < times; i++) {
            drawn = drawn * 1103515245 + 12345;
        }
        return drawn;
    }

    private static void promise18who() {
        looks("18 DRAWS: none by nobody", with(Edge::nothing, x -> x.loose(30)), x -> x.count(6), 1);
        looks("18 DRAWS: none by one without STEPS", with(Edge::oneAlone, x -> x.loose(30)), x -> x.count(6), 1);
        looks("18 DRAWS: none by one who is UP", with(steps(1), x -> x.carry(0, 1)).andThen(x -> x.loose(30)),
                x -> x.count(6), 1);
        looks("18 DRAWS: none by one without LEGS", with(steps(2), x -> x.carry(0, 1)).andThen(x -> x.rests(0, 0))
                .andThen(x -> x.loose(30)), x -> x.count(6), 1);
        looks("18 DRAWS: one by one LEG", with(steps(2), x -> x.carry(0, 1)).andThen(x -> x.rests(0, 1))
                .andThen(x -> x.loose(30)), x -> x.count(6), drawn(1, 1));
        looks("18 DRAWS: one by one who comes UP", with(steps(1), x -> x.loose(30)), x -> x.count(6), drawn(1, 1));
        looks("18 DRAWS: two by two of three", with(steps(4), x -> x.person(0) + x.person(5)).andThen(x -> x.carry(1, 1))
                .andThen(x -> x.loose(1)), x -> x.count(6), drawn(1, 2));
        looks("18 DRAWS: nothing HEARD from who can not go", with(steps(1), x -> x.carry(0, 1)).andThen(x -> x.loose(30)),
                x -> x.stepIs(0, 2), 0);
    }

    /** A seed behind which the next draw's rest by 100 is a word, looked for from a number on. */
    private static int seedOf(int word, int from) {
        for (int v = from;; v++) {
            if ((drawn(v, 1) >>> 8) % 100 == word) {
                return v;
            }
        }
    }

    private static void promise18draws() {
        for (int from : new int[] {1, 1 << 29, MIN, -1000}) {
            for (int word : new int[] {0, 1, 98, 99}) {
                int z = seedOf(word, from);
                Consumer<StairCourt> state = with(steps(1), x -> x.seed(z));
                Consumer<StairCourt> only = with(state, x -> Due.text(x, 0, "w=" + word));
                gives("18 DRAWS: the word " + word + " by z " + z, only, x -> x.loose(1), 0);
                looks("18 DRAWS: z behind z " + z, with(only, x -> x.loose(1)), x -> x.count(6), drawn(z, 1));
            }
        }
        int last = seedOf(99, 7);
        gives("18 DRAWS: the rest by 100 is a WORD, 99 at the most", with(steps(1), x -> x.seed(last))
                .andThen(x -> Due.text(x, 0, "w<99")), x -> x.loose(1), 1);
        looks("18 DRAWS: of the second by the second draw", with(steps(1), x -> x.person(9))
                .andThen(x -> Due.text(x, 0, "w=" + (drawn(1, 2) >>> 8) % 100)).andThen(x -> x.loose(1)),
                x -> x.personIs(0, 0) * 10 + x.personIs(1, 0), 1);
    }

    private static void promise19() {
        for (int v : new int[] {0, -1, MIN, MAX, BEYOND, PARTED}) {
            gives("19 seed: of " + v, Edge::nothing, x -> x.seed(v), 1);
            looks("19 seed: z is " + v, with(Edge::nothing, x -> x.seed(v)), x -> x.count(6), v);
            gives("19 seed: was " + v + ", no ERROR", with(Edge::nothing, x -> x.seed(v)), x -> x.seed(7), v);
        }
        looks("19 DRAWS: 0 makes it 12345", with(steps(1), x -> x.seed(0)).andThen(x -> x.loose(1)), x -> x.count(6), 12345);
        looks("19 DRAWS: MAX wraps", with(steps(1), x -> x.seed(MAX)).andThen(x -> x.loose(1)),
                x -> x.count(6), MAX * 1103515245 + 12345);
        looks("19 DRAWS: MIN wraps", with(steps(1), x -> x.seed(MIN)).andThen(x -> x.loose(1)),
                x -> x.count(6), MIN + 12345);
    }
}
