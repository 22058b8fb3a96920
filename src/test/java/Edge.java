import java.util.ArrayList;
import java.util.List;
import java.util.function.Consumer;
import java.util.function.ToLongFunction;

/**
 * What the tests of boundary cases share. Each case is one call on a court in a given state. Two courts are
 * made alike and the call is made on one of them alone: what it changed shows in what the two answer behind it.
 */
abstract class Edge extends Promise {
    /** A call with a number that differs from case to case. */
    interface CallBy {
        long on(StairCourt x, int v);
    }

    /** A call that is refused: its ERROR, nothing changed, and told() tells of one more such ERROR alone. */
    static void refused(String edge, Consumer<StairCourt> state, ToLongFunction<StairCourt> call, int error) {
        looked(edge, state, call, error, Due.LOW - error);
    }

    /** The same call refused for each of some numbers, each of which is a case of its own. */
    static void refused(String edge, Consumer<StairCourt> state, CallBy call, int error, int... numbers) {
        for (int v : numbers) {
            refused(edge + " " + v, state, x -> call.on(x, v), error);
        }
    }

    /** BEYOND for each of some numbers: those next to what goes, and the two farthest ones. */
    static void beyond(String edge, Consumer<StairCourt> state, CallBy call, int below, int above) {
        refused(edge, state, call, BEYOND, below, above, MIN, MAX);
    }

    /** A call that answers no ERROR and changes nothing, not what told() tells either. */
    static void looks(String edge, Consumer<StairCourt> state, ToLongFunction<StairCourt> call, long want) {
        looked(edge, state, call, want, 0);
    }

    /** A call that answers no ERROR: told() tells what it told ahead. */
    static void gives(String edge, Consumer<StairCourt> state, ToLongFunction<StairCourt> call, long want) {
        StairCourt x = made(state);
        StairCourt twin = made(state);
        due(edge, call.applyAsLong(x), want);
        toldAs(edge, x, twin, 0);
    }

    private static void looked(String edge, Consumer<StairCourt> state, ToLongFunction<StairCourt> call,
            long want, int error) {
        StairCourt x = made(state);
        StairCourt twin = made(state);
        due(edge, call.applyAsLong(x), want);
        toldAs(edge, x, twin, error);
        List<String> names = new ArrayList<>();
        List<Long> got = new ArrayList<>();
        ask(x, names, got);
        names.clear();
        List<Long> due = new ArrayList<>();
        ask(twin, names, due);
        for (int i = 0; i < due.size(); i++) {
            due(edge + ": behind it " + names.get(i), got.get(i), due.get(i));
        }
    }

    /** A state with one call more behind it. */
    static Consumer<StairCourt> with(Consumer<StairCourt> state, ToLongFunction<StairCourt> call) {
        return state.andThen(call::applyAsLong);
    }

    static StairCourt made(Consumer<StairCourt> state) {
        StairCourt x = new StairCourt();
        state.accept(x);
        return x;
    }

    private static void toldAs(String edge, StairCourt x, StairCourt twin, int error) {
        for (int k = 1; k <= 6; k++) {
            due(edge + ": told(" + k + ")", x.told(k), twin.told(k) + (k == error ? 1 : 0));
        }
    }

    /** Asks all that a court holds; some of it is changed by that, as it is on the twin. */
    private static void ask(StairCourt x, List<String> names, List<Long> answers) {
        askCounts(x, names, answers);
        askCourt(x, names, answers);
        for (int i = 0; i <= 6; i++) {
            note(names, answers, "body " + i, x.body(i));
        }
        askSheets(x, names, answers);
        note(names, answers, "check", x.check());
        note(names, answers, "text of THE TAPE", x.text(1));
        note(names, answers, "law by THE TAPE", x.law(1, 3, 4, 5));
        note(names, answers, "restore", x.restore());
        askCounts(x, names, answers);
        note(names, answers, "check of the IMAGE", x.check());
        note(names, answers, "kind of the IMAGE", x.stepIs(0, 0));
        note(names, answers, "legs of the IMAGE", x.personIs(0, 1));
        note(names, answers, "law 0 of the IMAGE", x.law(0, 2, 1, 0));
        note(names, answers, "law 1 of the IMAGE", x.law(1, 2, 1, 0));
        note(names, answers, "image", x.image());
    }

    private static void note(List<String> names, List<Long> answers, String name, long answer) {
        names.add(name);
        answers.add(answer);
    }

    private static void askCounts(StairCourt x, List<String> names, List<Long> answers) {
        for (int what = 0; what <= 6; what++) {
            note(names, answers, "count " + what, x.count(what));
        }
    }

    private static void askCourt(StairCourt x, List<String> names, List<Long> answers) {
        for (int step = 0; step < 20; step++) {
            for (int what = 0; what <= 3; what++) {
                note(names, answers, "stepIs " + step + ", " + what, x.stepIs(step, what));
            }
        }
        for (int person = 0; person < 5; person++) {
            for (int what = 0; what <= 4; what++) {
                note(names, answers, "personIs " + person + ", " + what, x.personIs(person, what));
            }
        }
        for (int use = 0; use <= 1; use++) {
            note(names, answers, "law " + use, x.law(use, 2, 1, 0));
            note(names, answers, "law " + use + " by others", x.law(use, 0, 0, 3));
        }
    }

    /** The numbers of SHEETS by carrying PEOPLE, how many by moving them, their bits by whom they come to. */
    private static void askSheets(StairCourt x, List<String> names, List<Long> answers) {
        for (int sheet = 0; sheet <= 3; sheet++) {
            note(names, answers, "carries " + sheet, x.carries(sheet));
            for (int person = 0; person < 5; person++) {
                note(names, answers, "carried by " + sheet + ": " + person, x.personIs(person, 0));
            }
            for (int n : new int[] {0, 1, 2, 3, 4, 5, 23, 24}) {
                note(names, answers, "move " + n + " in " + sheet, x.move(sheet, 0, sheet, 0, n));
            }
        }
        for (int bits = 8; bits <= 32; bits *= 2) {
            for (int sheet = 3; sheet >= 1; sheet--) {
                x.sheet(0, bits, 0);
                note(names, answers, bits + " bits of " + sheet, x.move(sheet, 0, 0, 0, 0));
            }
        }
    }

    // ---- states

    static void nothing(StairCourt x) {
        // A new object stays as it is made.
    }

    /** One of PEOPLE with nine LEGS, and no STEPS. */
    static void oneAlone(StairCourt x) {
        x.person(9);
    }

    /** A judge of each KIND, with 5, 2, 3, 4, 5, 6, 0; three of PEOPLE, and something of all else. */
    static void some(StairCourt x) {
        for (int km : new int[] {5, 12, 23, 34, 45, 56, 60}) {
            x.step(km);
        }
        x.person(9);
        x.person(0);
        x.say(0, 30);
        x.tell(7);
        Due.text(x, 0, "w>1");
        x.image();
        x.person(999);
        x.carry(2, 7);
        Due.text(x, 1, "b+s");
        Due.feed(x, "b+7");
        x.hours(12);
        x.seed(77);
        x.check();
        x.tell(8);
        x.tell(12);
        Due.sheet(x, 0, 8, 1, 2, 3);
        Due.sheet(x, 1, 16, 0, 5, 7, 3);
        x.sheet(2, 32, 0);
        x.voice(4, 2, 5);
        x.step(70);
    }

    /** As many of all as there can be. */
    static void full(StairCourt x) {
        for (int i = 0; i < 20; i++) {
            x.step(10 * (i % 7) + i % 10);
        }
        for (int i = 0; i < 5; i++) {
            x.person(i);
            x.carry(i, 4 * i + 4);
            x.tell(i);
        }
        for (int i = 5; i < 24; i++) {
            x.tell(i);
        }
        Due.feed(x, "b+1+1+1+1+1+1+1+1+1+1+1+1+1+1+1+1+1+1+1+1+1+1+1+1+1+1+1+1+11");
        x.sheet(3, 8, 24);
        x.put(3, 0, 20);
    }

    /** One STEP and one of PEOPLE with five LEGS at an HOUR; some 220 calls at the most. */
    static Consumer<StairCourt> atHour(int hour) {
        return x -> {
            x.step(0);
            x.person(5);
            for (int left = hour; left > 0; left -= 48) {
                x.hours(Math.min(48, left));
            }
            x.rests(0, 5);
        };
    }

    /** A judge who has HEARD so many words, all of them falls of five of PEOPLE; some 80 calls at the most. */
    static Consumer<StairCourt> heard(int km, int words) {
        return x -> {
            x.step(km);
            for (int i = 0; i < 5; i++) {
                x.person(9);
            }
            Due.text(x, 0, "0");
            int left = words;
            for (; left >= 5; left -= 5 * Math.min(30, left / 5)) {
                x.loose(Math.min(30, left / 5));
            }
            for (; left > 0; left--) {
                x.say(0, 0);
            }
            x.untell(0);
            x.rests(0, 9);
        };
    }

    /** One with twenty LEGS who fell 9990 times, AT 0; more than 340 calls, which leave no room to look at all. */
    static void fellOften(StairCourt x) {
        x.step(39);
        x.person(20);
        Due.text(x, 0, "0");
        for (int i = 0; i < 333; i++) {
            x.loose(30);
        }
    }

    /** Judges, each of a KIND with a number, and one with nine LEGS AT the first of them. */
    static Consumer<StairCourt> judges(int... kms) {
        return x -> {
            for (int km : kms) {
                x.step(km);
            }
            x.person(9);
        };
    }

    static Consumer<StairCourt> steps(int many) {
        return judges(new int[many]);
    }
}
