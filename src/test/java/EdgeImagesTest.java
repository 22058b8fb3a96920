import java.util.function.Consumer;

/** Boundary cases of promises 33 to 38 and of what ERRORS are, each a test of its own. */
public final class EdgeImagesTest extends Edge {
    private static final int LAST_CALL = 512;

    public static void main(String[] args) {
        promise33();
        promise34();
        promise34back();
        promise35();
        promise36();
        promise36people();
        promise37();
        promise38();
        promise38each();
        lastCall();
        Due.end("EdgeImagesTest");
    }

    private static void promise33() {
        looks("33 image: none at first", Edge::nothing, x -> x.told(2), 0);
        gives("33 image: of a new object, the first", Edge::nothing, x -> x.image(), 1);
        gives("33 image: in place of one ahead", Edge::some, x -> x.image(), 2);
        gives("33 image: of as many of all as there can be", Edge::full, x -> x.image(), 1);
        gives("33 image: the third", with(Edge::some, x -> x.image()), x -> x.image(), 3);
        // restore() leaves alone how often this was done, also behind one that was refused.
        gives("33 image: behind restore()", with(Edge::some, x -> x.restore()), x -> x.image(), 2);
        gives("33 image: the third, behind restore() of no STEPS", with(Edge::nothing, x -> x.image() + x.image())
                .andThen(x -> x.restore()), x -> x.image(), 3);
        gives("33 image: behind a refused restore()", with(Edge::nothing, x -> x.restore()), x -> x.image(), 1);
    }

    private static void promise34() {
        refused("34 restore: there is none", Edge::nothing, x -> x.restore(), NONE);
        refused("34 restore: there is none of all there can be", Edge::full, x -> x.restore(), NONE);
        refused("34 restore: there is none at HOUR 9999", atHour(9999), x -> x.restore(), NONE);
        gives("34 restore: HOUR 0", Edge::some, x -> x.restore(), 0);
        gives("34 restore: HOUR 9999", with(atHour(9999), x -> x.image()), x -> x.restore(), 9999);
        gives("34 restore: the IMAGE stays", with(Edge::some, x -> x.restore()), x -> x.restore(), 0);
        gives("34 restore: an IMAGE of a new object", with(Edge::nothing, x -> x.image()), x -> x.restore(), 0);
        gives("34 restore: the latest IMAGE", with(Edge::some, x -> x.image()), x -> x.restore(), 12);
    }

    /** From all there can be back to nothing, and the other way. */
    private static void promise34back() {
        Consumer<StairCourt> emptied = with(Edge::nothing, x -> x.image()).andThen(Edge::full).andThen(x -> x.restore());
        for (int what = 0; what <= 4; what++) {
            int asked = what;
            looks("34 restore: nothing again, count " + what, emptied, x -> x.count(asked), 0);
        }
        refused("34 restore: no STEPS again,", emptied, (x, v) -> x.stepIs(v, 0), BEYOND, 0, 19);
        refused("34 restore: no PEOPLE again,", emptied, (x, v) -> x.personIs(v, 0), BEYOND, 0, 4);
        gives("34 restore: room for STEPS again", emptied, x -> x.step(0), 0);
        gives("34 restore: room for PEOPLE again", emptied, x -> x.person(0), 0);
        gives("34 restore: room for bytes again", emptied, x -> x.feed('1', 8), 8);
        gives("34 restore: room for numbers that wait again", emptied, x -> x.tell(0), 1);
        looks("34 restore: SHEETS stay", emptied, x -> x.move(3, 0, 3, 0, 24), 24);
        Consumer<StairCourt> filled = with(Edge::full, x -> x.image()).andThen(x -> {
            x.text(1);
            x.check();
            x.carry(0, 0);
        }).andThen(x -> x.restore());
        refused("34 restore: no room for STEPS again", filled, x -> x.step(0), FULL);
        refused("34 restore: no room for PEOPLE again", filled, x -> x.person(0), FULL);
        refused("34 restore: no room for bytes again", filled, x -> x.feed('1', 1), FULL);
        refused("34 restore: no room for numbers that wait again", filled, x -> x.tell(0), FULL);
        looks("34 restore: AT again", filled, x -> x.personIs(0, 0), 4);
        gives("34 restore: THE TAPE of sixty bytes again", filled, x -> x.text(1), 1);
        looks("34 restore: no TEXT again", filled, x -> x.untell(1), 0);
        Consumer<StairCourt> untold = with(Edge::some, x -> x.image()).andThen(x -> x.untell(0))
                .andThen(x -> x.untell(1)).andThen(x -> x.restore());
        looks("34 restore: HEEDS again", untold, x -> x.law(0, 1, 0, 0), 0);
        looks("34 restore: BRIBE again", untold, x -> x.law(1, 5, 4, 0), 9);
        promise34kept();
        looks("34 restore: z again", with(Edge::some, x -> x.image()).andThen(x -> x.seed(1)).andThen(x -> x.restore()),
                x -> x.count(6), 77);
        looks("34 restore: what told() tells stays", with(Edge::some, x -> x.step(70)).andThen(x -> x.restore()),
                x -> x.told(1), 2);
    }

    /** Each thing that an IMAGE holds is changed behind it, and is again as it was. */
    private static void promise34kept() {
        Consumer<StairCourt> state = with(Edge::some, x -> x.carry(0, 2)).andThen(x -> x.bribe(0))
                .andThen(x -> x.say(0, 0)).andThen(x -> x.image()).andThen(x -> {
                    x.say(0, 0);
                    x.carry(0, 2);
                    x.bribe(0);
                    x.say(1, 99);
                    x.text(1);
                    Due.feed(x, "b+9");
                    x.check();
                    x.tell(6);
                    x.tell(12);
                    x.become(1, 69);
                    x.person(7);
                    x.step(0);
                    x.hours(7);
                }).andThen(x -> x.restore());
        Consumer<StairCourt> ahead = with(Edge::some, x -> x.carry(0, 2)).andThen(x -> x.bribe(0)).andThen(x -> x.say(0, 0));
        for (int person = 0; person < 3; person++) {
            for (int what = 0; what <= 4; what++) {
                int one = person;
                int asked = what;
                looks("34 restore: personIs " + one + ", " + what, state, x -> x.personIs(one, asked),
                        made(ahead).personIs(one, asked));
            }
        }
        for (int what = 0; what <= 3; what++) {
            int asked = what;
            looks("34 restore: stepIs 1, " + what, state, x -> x.stepIs(1, asked), made(ahead).stepIs(1, asked));
        }
        gives("34 restore: THE TAPE, as it was", state, x -> x.text(1), 1);
        looks("34 restore: b+7 is on THE TAPE", with(state, x -> x.text(1)), x -> x.law(1, 0, 0, 0), 7);
        gives("34 restore: the first number that waits", with(state, x -> x.rests(0, 8)), x -> x.check(), 0);
        gives("34 restore: the second number that waits", with(state, x -> x.rests(0, 8)).andThen(x -> x.rests(1, 11)),
                x -> x.check(), 2);
    }

    private static Consumer<StairCourt> waits(Consumer<StairCourt> state, int... numbers) {
        return state.andThen(x -> {
            for (int v : numbers) {
                x.tell(v);
            }
        });
    }

    private static void promise35() {
        Consumer<StairCourt> most = waits(judges(0), new int[24]);
        refused("35 tell: 24 wait,", most, (x, v) -> x.tell(v), FULL, 0, 1, MIN, MAX);
        gives("35 tell: the first", Edge::nothing, x -> x.tell(0), 1);
        gives("35 tell: the 24th", waits(Edge::nothing, new int[23]), x -> x.tell(0), 24);
        for (int v : new int[] {MIN, -1, 0, 999, MAX, BEYOND}) {
            gives("35 tell: any number " + v, Edge::nothing, x -> x.tell(v), 1);
        }
        gives("35 tell: once more behind check()", with(most, x -> x.check()), x -> x.tell(0), 1);
        gives("35 tell: 24 wait, a refused one doesn't", with(most, x -> x.tell(7)), x -> x.count(4), 24);
    }

    private static Consumer<StairCourt> five() {
        return x -> {
            for (int i = 0; i < 5; i++) {
                x.person(i == 0 ? 0 : i == 4 ? 999 : 10 + i);
            }
        };
    }

    private static void checks(String edge, Consumer<StairCourt> state, int want) {
        gives("36 check: " + edge, state, x -> x.check(), want);
        looks("36 check: " + edge + ", none wait then", with(state, x -> x.check()), x -> x.count(4), 0);
        looks("36 check: " + edge + ", again", with(state, x -> x.check()), x -> x.check(), 0);
    }

    private static void promise36() {
        checks("none wait", Edge::nothing, 0);
        checks("none wait, five of PEOPLE", five(), 0);
        checks("nobody", waits(Edge::nothing, 0), 1);
        checks("the fewest LEGS", waits(five(), 0), 0);
        checks("the most LEGS", waits(five(), 0, 11, 12, 13, 999), 0);
        checks("the first isn't so", waits(five(), 1, 11), 1);
        checks("the first isn't so, -1", waits(five(), -1), 1);
        checks("the first isn't so, MIN", waits(five(), MIN), 1);
        checks("the second isn't so", waits(five(), 0, 12, 12), 2);
        checks("the fifth isn't so", waits(five(), 0, 11, 12, 13, 1000), 5);
        checks("the fifth isn't so, MAX", waits(five(), 0, 11, 12, 13, MAX), 5);
        checks("two aren't so, the first of them", waits(five(), 0, 11, 13, 12), 3);
        checks("fewer than PEOPLE", waits(five(), 0, 11), 0);
    }

    private static void promise36people() {
        checks("nobody for the sixth", waits(five(), 0, 11, 12, 13, 999, 0), 6);
        checks("nobody for the sixth of 24", waits(waits(five(), 0, 11, 12, 13, 999), new int[19]), 6);
        checks("nobody for the second", waits(Edge::oneAlone, 9, 0), 2);
        checks("24 wait, the first isn't so", waits(five(), new int[] {5, 11, 12, 13, 999, 0, 0, 0, 0, 0, 0, 0, 0, 0,
            0, 0, 0, 0, 0, 0, 0, 0, 0, 0}), 1);
        checks("behind a refused tell()", waits(five(), new int[25]), 2);
        looks("36 check: no number of the ones ahead waits", with(waits(five(), 7, 7, 7), x -> x.check())
                .andThen(x -> x.tell(0)).andThen(x -> x.check()), x -> x.count(4), 0);
        gives("36 check: of the ones behind alone", waits(with(waits(five(), 7, 7, 7), x -> x.check()), 0), x -> x.check(), 0);
    }

    private static void promise37() {
        beyond("37 count: what", Edge::some, (x, what) -> x.count(what), -1, 7);
        beyond("37 count: what, of a new object", Edge::nothing, (x, what) -> x.count(what), -1, 7);
        int[] most = {20, 5, 0, 60, 24, 0, 1};
        int[] some = {7, 3, 12, 3, 2, 6, 77};
        for (int what = 0; what <= 6; what++) {
            int asked = what;
            looks("37 count: " + what, Edge::some, x -> x.count(asked), some[what]);
            looks("37 count: " + what + ", as many as can be", Edge::full, x -> x.count(asked), most[what]);
        }
        looks("37 count: HOUR 9999", atHour(9999), x -> x.count(2), 9999);
        looks("37 count: z, any number", with(Edge::nothing, x -> x.seed(MIN)), x -> x.count(6), MIN);
        looks("37 count: z like an ERROR", with(Edge::nothing, x -> x.seed(NONE)), x -> x.count(6), NONE);
    }

    private static void promise38() {
        beyond("38 told: k", Edge::some, (x, k) -> x.told(k), 0, 7);
        beyond("38 told: k, of a new object", Edge::nothing, (x, k) -> x.told(k), 0, 7);
        refused("38 told: k", Edge::some, (x, k) -> x.told(k), BEYOND, -1, 8, BEYOND, PARTED);
        for (int k = 1; k <= 6; k++) {
            int asked = k;
            looks("38 told: none at first, " + k, Edge::nothing, x -> x.told(asked), 0);
            looks("38 told: BEYOND of told() is counted, too, " + k, with(Edge::nothing, x -> x.told(7)),
                    x -> x.told(asked), asked == 1 ? 1 : 0);
        }
    }

    /** How each ERROR is told, and what is no ERROR. */
    private static void promise38each() {
        due("38 ERRORS: BEYOND", made(Edge::nothing).step(70), -1000000001L);
        due("38 ERRORS: NONE", made(Edge::nothing).restore(), -1000000002L);
        due("38 ERRORS: STATE", made(Edge::oneAlone).say(0, 0), -1000000003L);
        due("38 ERRORS: FULL", made(Edge::full).step(0), -1000000004L);
        due("38 ERRORS: KIND", made(Edge::some).as(0, 1), -1000000005L);
        due("38 ERRORS: PARTED", made(judges(0)).voice(0, 3, 1), -1000000006L);
        due("38 ERRORS: BEYOND in a long", made(judges(0)).odds(0, 5, 0), -1000000001L);
        StairCourt x = made(Edge::full);
        x.step(70);
        x.image();
        x.voice(0, 3, 1);
        x.body(9);
        x.restore();
        x.say(0, 100);
        x.tell(1);
        x.as(0, 1);
        x.rests(4, 0);
        x.bribe(4);
        due("38 told: BEYOND", x.told(1), 2);
        due("38 told: NONE", x.told(2), 1);
        due("38 told: STATE", x.told(3), 1);
        due("38 told: FULL", x.told(4), 1);
        due("38 told: KIND", x.told(5), 1);
        due("38 told: PARTED", x.told(6), 1);
        gives("38 told: a FAULT is no ERROR", Edge::nothing, c -> c.text(0), -10);
        gives("38 told: check() is no ERROR", c -> c.tell(1), c -> c.check(), 1);
        gives("38 told: a VOICE like an ERROR is none", judges(0), c -> c.voice(0, 0, STATE), STATE);
    }

    /** An object is used for at most 512 calls, and the last of them still answers. */
    private static void lastCall() {
        StairCourt refused = new StairCourt();
        StairCourt images = new StairCourt();
        StairCourt told = new StairCourt();
        for (int i = 1; i < LAST_CALL; i++) {
            refused.step(-1);
            images.image();
            told.told(0);
        }
        due("38 the last call: told()", refused.told(1), LAST_CALL - 1);
        due("33 the last call: image()", images.image(), LAST_CALL);
        due("38 the last call: BEYOND of told()", told.told(1), LAST_CALL - 1);
    }
}
