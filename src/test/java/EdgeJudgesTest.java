import java.util.function.Consumer;

/** Boundary cases of promises 1 to 12 and of terms 1, each a test of its own. */
public final class EdgeJudgesTest extends Edge {
    private static final int LAST_HOUR = 9999;

    public static void main(String[] args) {
        promise1();
        promise2();
        promise3();
        promise3wants();
        promise4();
        promise5();
        promise6();
        promise7();
        promise8();
        promise9();
        promise10();
        promise10nods();
        promise10hour();
        promise10heard();
        promise10heeds();
        promise11();
        promise11goes();
        promise11held();
        promise12();
        Due.end("EdgeJudgesTest");
    }

    private static Consumer<StairCourt> said(int word, int times, int... kms) {
        return judges(kms).andThen(x -> {
            for (int i = 0; i < times; i++) {
                x.carry(0, 0);
                x.rests(0, 9);
                x.say(0, word);
            }
        });
    }

    private static void promise1() {
        for (int what = 0; what <= 5; what++) {
            int asked = what;
            looks("1: all as at first, count " + what, Edge::nothing, x -> x.count(asked), 0);
        }
        looks("1: z is 1 at first", Edge::nothing, x -> x.count(6), 1);
        looks("1: no TEXT of HEEDS", Edge::nothing, x -> x.untell(0), 0);
        looks("1: no TEXT of BRIBE", Edge::nothing, x -> x.untell(1), 0);
        refused("1: no STEPS, not even", Edge::nothing, (x, v) -> x.stepIs(v, 0), BEYOND, 0);
        refused("1: no PEOPLE, not even", Edge::nothing, (x, v) -> x.personIs(v, 0), BEYOND, 0);
        refused("1: SHEETS are missing at first,", Edge::nothing, (x, v) -> x.judge(v), NONE, 0, 1, 2, 3);
        refused("1: no IMAGE", Edge::nothing, x -> x.restore(), NONE);
        refused("1: THE TRACE is empty", Edge::nothing, x -> x.body(0), NONE);
        looks("1: HEARD is 0 at first", steps(1), x -> x.stepIs(0, 2), 0);
        looks("1: AT is 0 at first", steps(1), x -> x.personIs(0, 0), 0);
        looks("1: PAID is 0 at first", steps(1), x -> x.personIs(0, 2), 0);
        looks("1: FALLS are 0 at first", steps(1), x -> x.personIs(0, 3), 0);
    }

    private static void promise2() {
        beyond("2 step: km", Edge::some, (x, km) -> x.step(km), -1, 70);
        beyond("2 step: km, ahead of FULL", Edge::full, (x, km) -> x.step(km), -1, 70);
        refused("2 step: at most 20 STEPS, km", Edge::full, (x, km) -> x.step(km), FULL, 0, 69);
        gives("2 step: the first", Edge::nothing, x -> x.step(0), 0);
        gives("2 step: the twentieth", steps(19), x -> x.step(69), 19);
        looks("2 step: the least km, KIND", judges(0), x -> x.stepIs(0, 0), 0);
        looks("2 step: the least km, m", judges(0), x -> x.stepIs(0, 1), 0);
        looks("2 step: the largest km, KIND", judges(69), x -> x.stepIs(0, 0), 6);
        looks("2 step: the largest km, m", judges(69), x -> x.stepIs(0, 1), 9);
        looks("2 step: km 9, KIND", judges(9), x -> x.stepIs(0, 0), 0);
        looks("2 step: km 10, KIND", judges(10), x -> x.stepIs(0, 0), 1);
        looks("2 step: km 10, m", judges(10), x -> x.stepIs(0, 1), 0);
        looks("2 step: who was UP with no STEPS isn't any more", Edge::oneAlone, x -> x.personIs(0, 4), 1);
        looks("2 step: who was UP with no STEPS isn't any more, with one",
                with(Edge::oneAlone, x -> x.step(0)), x -> x.personIs(0, 4), 0);
        Consumer<StairCourt> upOn19 = with(steps(19), x -> x.carry(0, 19));
        looks("2 step: UP on 19", upOn19, x -> x.personIs(0, 4), 1);
        looks("2 step: who was UP on 19 isn't any more", with(upOn19, x -> x.step(0)), x -> x.personIs(0, 4), 0);
        looks("2 step: who was UP on 19 is AT 19", with(upOn19, x -> x.step(0)), x -> x.personIs(0, 0), 19);
        Consumer<StairCourt> refusedWhenUp = with(upOn19, x -> x.step(70));
        looks("2 step: UP still, where it is refused", refusedWhenUp, x -> x.personIs(0, 4), 1);
    }

    private static void promise3() {
        beyond("3 stepIs: step", Edge::some, (x, v) -> x.stepIs(v, 0), -1, 7);
        beyond("3 stepIs: step of twenty", Edge::full, (x, v) -> x.stepIs(v, 3), -1, 20);
        beyond("3 stepIs: step of none", Edge::nothing, (x, v) -> x.stepIs(v, 1), -1, 0);
        beyond("3 stepIs: what", Edge::some, (x, v) -> x.stepIs(0, v), -1, 4);
        looks("3 stepIs: the first", Edge::some, x -> x.stepIs(0, 1), 5);
        looks("3 stepIs: the last", Edge::some, x -> x.stepIs(6, 0), 6);
        looks("3 stepIs: the twentieth", Edge::full, x -> x.stepIs(19, 1), 9);
        looks("3 stepIs: the largest what", Edge::some, x -> x.stepIs(2, 3), 7);
    }

    /** BRIBES without a TEXT, held within 0 .. 99. */
    private static void promise3wants() {
        looks("3 WANTS: JUDGE by 0 HEARD", said(0, 0, 9), x -> x.stepIs(0, 3), 10);
        looks("3 WANTS: JUDGE by 9 HEARD", said(0, 9, 9), x -> x.stepIs(0, 3), 19);
        looks("3 WANTS: JUDGE by 10 HEARD", said(0, 10, 9), x -> x.stepIs(0, 3), 10);
        looks("3 WANTS: JUDGE by 11 HEARD", said(0, 11, 9), x -> x.stepIs(0, 3), 11);
        looks("3 WANTS: STRICT with 0", judges(10), x -> x.stepIs(0, 3), 10);
        looks("3 WANTS: STRICT with 9", judges(19), x -> x.stepIs(0, 3), 19);
        looks("3 WANTS: MILD, half of 11 cut", said(0, 1, 29), x -> x.stepIs(0, 3), 5);
        looks("3 WANTS: MILD, half of 12", said(0, 2, 29), x -> x.stepIs(0, 3), 6);
        looks("3 WANTS: SAME, the most", said(0, 9, 39), x -> x.stepIs(0, 3), 38);
        looks("3 WANTS: DEAF AT the first STEP", judges(49), x -> x.stepIs(0, 3), 19);
        looks("3 WANTS: DEAF AT the twentieth STEP", with(steps(19), x -> x.step(49)), x -> x.stepIs(19, 3), 38);
        looks("3 WANTS: CHILD, half of 11 cut, less 1", said(0, 1, 59), x -> x.stepIs(0, 3), 4);
        looks("3 WANTS: CHILD by 9 HEARD", said(0, 9, 59), x -> x.stepIs(0, 3), 8);
        looks("3 WANTS: MUTE, 0", said(0, 9, 69), x -> x.stepIs(0, 3), 0);
        looks("3 WANTS: MUTE, no less than 0", with(judges(69), x -> Due.text(x, 1, "b+5")), x -> x.stepIs(0, 3), 5);
        looks("3 BRIBE: 99 of 100", with(judges(0), x -> Due.text(x, 1, "b*10")), x -> x.stepIs(0, 3), 99);
        looks("3 BRIBE: 99 of 99", with(judges(0), x -> Due.text(x, 1, "b*10-1")), x -> x.stepIs(0, 3), 99);
        looks("3 BRIBE: 98 of 98", with(judges(0), x -> Due.text(x, 1, "b*10-2")), x -> x.stepIs(0, 3), 98);
        looks("3 BRIBE: 0 of 0", with(judges(0), x -> Due.text(x, 1, "b-10")), x -> x.stepIs(0, 3), 0);
        looks("3 BRIBE: 0 of -1", with(judges(0), x -> Due.text(x, 1, "b-11")), x -> x.stepIs(0, 3), 0);
        looks("3 BRIBE: 1 of 1", with(judges(0), x -> Due.text(x, 1, "b-9")), x -> x.stepIs(0, 3), 1);
    }

    private static void promise4() {
        beyond("4 become: step", Edge::some, (x, v) -> x.become(v, 0), -1, 7);
        beyond("4 become: step of twenty", Edge::full, (x, v) -> x.become(v, 0), -1, 20);
        beyond("4 become: step of none", Edge::nothing, (x, v) -> x.become(v, 0), -1, 0);
        beyond("4 become: km", Edge::some, (x, km) -> x.become(6, km), -1, 70);
        gives("4 become: the least km", Edge::some, x -> x.become(6, 0), 6);
        gives("4 become: the largest km", Edge::some, x -> x.become(0, 69), 0);
        Consumer<StairCourt> become = with(Edge::some, x -> x.become(0, 69));
        looks("4 become: the KIND of the largest km", become, x -> x.stepIs(0, 0), 6);
        looks("4 become: the m of the largest km", become, x -> x.stepIs(0, 1), 9);
        looks("4 become: HEARD stays", become, x -> x.stepIs(0, 2), 1);
        looks("4 become: the same as he is", Edge::some, x -> x.become(0, 5), 0);
    }

    private static void promise5() {
        beyond("5 as: step", Edge::some, (x, v) -> x.as(v, 0), -1, 7);
        beyond("5 as: step of none", Edge::nothing, (x, v) -> x.as(v, 0), -1, 0);
        beyond("5 as: kind", Edge::some, (x, kind) -> x.as(0, kind), -1, 7);
        int[] ms = {5, 2, 3, 4, 5, 6, 0};
        int[][] kinds = {{0}, {0, 1}, {0, 2}, {0, 3}, {0, 1, 4}, {0, 2, 5}, {0, 6}};
        for (int step = 0; step < 7; step++) {
            int s = step;
            boolean[] is = new boolean[7];
            for (int kind : kinds[step]) {
                is[kind] = true;
                looks("5 as: KIND " + s + " as " + kind, Edge::some, x -> x.as(s, kind), ms[s]);
            }
            for (int kind = 0; kind < 7; kind++) {
                if (!is[kind]) {
                    refused("5 as: KIND " + s + " is none of", Edge::some, (x, v) -> x.as(s, v), KIND, kind);
                }
            }
        }
    }

    private static void promise6() {
        beyond("6 person: legs", Edge::some, (x, legs) -> x.person(legs), -1, 1000);
        beyond("6 person: legs, ahead of FULL", Edge::full, (x, legs) -> x.person(legs), -1, 1000);
        refused("6 person: at most 5 PEOPLE, legs", Edge::full, (x, legs) -> x.person(legs), FULL, 0, 999);
        gives("6 person: the first", Edge::nothing, x -> x.person(0), 0);
        gives("6 person: the fifth", with(steps(1), x -> x.person(1) + x.person(2) + x.person(3)), x -> x.person(999), 4);
        looks("6 person: the fewest LEGS", with(Edge::nothing, x -> x.person(0)), x -> x.personIs(0, 1), 0);
        looks("6 person: the most LEGS", with(Edge::nothing, x -> x.person(999)), x -> x.personIs(0, 1), 999);
    }

    private static void promise7() {
        beyond("7 personIs: person", Edge::some, (x, v) -> x.personIs(v, 0), -1, 3);
        beyond("7 personIs: person of five", Edge::full, (x, v) -> x.personIs(v, 0), -1, 5);
        beyond("7 personIs: person of none", Edge::nothing, (x, v) -> x.personIs(v, 0), -1, 0);
        beyond("7 personIs: what", Edge::some, (x, v) -> x.personIs(0, v), -1, 5);
        looks("7 personIs: the fifth", Edge::full, x -> x.personIs(4, 1), 4);
        looks("7 personIs: AT the last STEP, not UP", with(steps(20), x -> x.carry(0, 19)), x -> x.personIs(0, 4), 0);
        looks("7 personIs: UP on 20", with(steps(20), x -> x.carry(0, 20)), x -> x.personIs(0, 4), 1);
        looks("7 personIs: AT 0, not UP by one STEP", steps(1), x -> x.personIs(0, 4), 0);
        looks("7 personIs: UP with no STEPS", Edge::oneAlone, x -> x.personIs(0, 4), 1);
    }

    private static void promise8() {
        beyond("8 rests: person", Edge::some, (x, v) -> x.rests(v, 5), -1, 3);
        beyond("8 rests: person of five", Edge::full, (x, v) -> x.rests(v, 5), -1, 5);
        beyond("8 rests: person of none", Edge::nothing, (x, v) -> x.rests(v, 5), -1, 0);
        beyond("8 rests: legs", Edge::some, (x, legs) -> x.rests(0, legs), -1, 1000);
        gives("8 rests: the fewest LEGS", Edge::some, x -> x.rests(2, 0), 999);
        looks("8 rests: are the fewest", with(Edge::some, x -> x.rests(2, 0)), x -> x.personIs(2, 1), 0);
        gives("8 rests: the most LEGS", Edge::some, x -> x.rests(1, 999), 12);
        looks("8 rests: are the most", with(Edge::some, x -> x.rests(1, 999)), x -> x.personIs(1, 1), 999);
        looks("8 rests: as many as there are", Edge::some, x -> x.rests(1, 12), 12);
    }

    private static void promise9() {
        beyond("9 carry: person", Edge::some, (x, v) -> x.carry(v, 0), -1, 3);
        beyond("9 carry: person of five", Edge::full, (x, v) -> x.carry(v, 0), -1, 5);
        beyond("9 carry: person of none", Edge::nothing, (x, v) -> x.carry(v, 0), -1, 0);
        beyond("9 carry: step", Edge::some, (x, step) -> x.carry(0, step), -1, 8);
        beyond("9 carry: step of twenty", Edge::full, (x, step) -> x.carry(0, step), -1, 21);
        beyond("9 carry: step of none", Edge::oneAlone, (x, step) -> x.carry(0, step), -1, 1);
        looks("9 carry: to the only number of no STEPS", Edge::oneAlone, x -> x.carry(0, 0), 0);
        gives("9 carry: to the foot", Edge::some, x -> x.carry(2, 0), 7);
        looks("9 carry: is AT the foot", with(Edge::some, x -> x.carry(2, 0)), x -> x.personIs(2, 0), 0);
        gives("9 carry: UP", Edge::full, x -> x.carry(0, 20), 4);
        looks("9 carry: is UP", with(Edge::full, x -> x.carry(0, 20)), x -> x.personIs(0, 4), 1);
        looks("9 carry: AT the last STEP is not UP", with(Edge::full, x -> x.carry(0, 19)), x -> x.personIs(0, 4), 0);
    }

    private static void promise10() {
        beyond("10 content: step", Edge::some, (x, v) -> x.content(v, 50), -1, 7);
        beyond("10 content: step of twenty", Edge::full, (x, v) -> x.content(v, 50), -1, 20);
        beyond("10 content: step of none", Edge::nothing, (x, v) -> x.content(v, 50), -1, 0);
        beyond("10 content: word", Edge::some, (x, word) -> x.content(6, word), -1, 100);
        looks("10 content: the least WORD", judges(0), x -> x.content(0, 0), 1);
        looks("10 content: the largest WORD", judges(0), x -> x.content(0, 99), 1);
    }

    /** The WORDS next to where a NOD begins and ends. */
    private static void promise10nods() {
        nods("JUDGE with 0", 0, 0, 99);
        nods("JUDGE with 1", 1, 5, 99, 0, 4);
        nods("JUDGE with 9", 9, 45, 99, 0, 44);
        nods("STRICT with 0", 10, 0, 3, 1, 2, 98);
        nods("STRICT with 0, the last", 10, 96, 99, 97, 98);
        nods("STRICT with 9", 19, 45, 48, 42, 44, 46, 47);
        nods("STRICT with 8", 18, 41, 98, 38, 40, 99);
        nods("MILD with 9", 29, 45, 39, 44, 40, 38);
        nods("MILD with 9, the least", 29, 9, 19, 8, 10, 0);
        nods("MILD with 0", 20, 0, 99);
        nods("SAME with 0", 30, 0, 0, 1, 7, 99);
        nods("SAME with 1", 31, 7, 7, 0, 6, 8, 14);
        nods("SAME with 9", 39, 63, 63, 62, 64, 99);
        nods("CHILD AT 0", 50, 0, 89, 90, 91, 99);
        nods("CHILD AT 0 with 9", 59, 9, 89, 8, 90, 99, 44);
        nods("MUTE with 0", 60, 0, 99);
        nods("MUTE with 9", 69, 45, 99, 0, 44);
        Consumer<StairCourt> child19 = with(steps(19), x -> x.step(50));
        looks("10 CHILD AT 19: 70", child19, x -> x.content(19, 70), 1);
        looks("10 CHILD AT 19: 71", child19, x -> x.content(19, 71), 0);
    }

    private static void nods(String who, int km, int first, int last, int... not) {
        looks("10 " + who + ": " + first, judges(km), x -> x.content(0, first), 1);
        looks("10 " + who + ": " + last, judges(km), x -> x.content(0, last), 1);
        for (int word : not) {
            looks("10 " + who + ": not " + word, judges(km), x -> x.content(0, word), 0);
        }
    }

    /** The HOURS at which the DEAF begin and end to hear. */
    private static void promise10hour() {
        int[] hours = {0, 11, 12, 13, 23, 24, 35, 36, 47, 48, LAST_HOUR - 4, LAST_HOUR - 3, LAST_HOUR};
        int[] nods = {0, 0, 1, 1, 1, 0, 0, 1, 1, 0, 0, 1, 1};
        for (int i = 0; i < hours.length; i++) {
            looks("10 DEAF at HOUR " + hours[i], with(atHour(hours[i]), x -> x.become(0, 40)),
                    x -> x.content(0, 0), nods[i]);
        }
        looks("10 DEAF at HOUR 12: as STRICT", with(atHour(12), x -> x.become(0, 41)), x -> x.content(0, 6), 0);
        looks("10 DEAF at HOUR 12: as JUDGE", with(atHour(12), x -> x.become(0, 41)), x -> x.content(0, 4), 0);
        looks("10 DEAF at HOUR 12: the least", with(atHour(12), x -> x.become(0, 41)), x -> x.content(0, 7), 1);
    }

    private static void promise10heard() {
        looks("10 MUTE by 0 HEARD", said(0, 0, 60), x -> x.content(0, 0), 1);
        looks("10 MUTE by 1 HEARD", said(0, 1, 60), x -> x.content(0, 0), 0);
        looks("10 MUTE by 2 HEARD", said(0, 2, 60), x -> x.content(0, 0), 1);
        looks("10 MUTE by 9999 HEARD", heard(60, 9999), x -> x.content(0, 0), 0);
    }

    private static void promise10heeds() {
        looks("10 HEEDS: without a TEXT 1", judges(0), x -> x.content(0, 0), 1);
        looks("10 HEEDS: 0 of 0", with(judges(0), x -> Due.text(x, 0, "w")), x -> x.content(0, 0), 0);
        looks("10 HEEDS: 1 of 1", with(judges(0), x -> Due.text(x, 0, "w")), x -> x.content(0, 1), 1);
        looks("10 HEEDS: 1 of 2", with(judges(0), x -> Due.text(x, 0, "w")), x -> x.content(0, 2), 1);
        looks("10 HEEDS: 0 of -1", with(judges(0), x -> Due.text(x, 0, "0-w")), x -> x.content(0, 1), 0);
        looks("10 HEEDS: 1 makes none NOD", with(judges(9), x -> Due.text(x, 0, "1")), x -> x.content(0, 44), 0);
    }

    private static void promise11() {
        beyond("11 say: person", Edge::some, (x, v) -> x.say(v, 50), -1, 3);
        beyond("11 say: person of five", Edge::full, (x, v) -> x.say(v, 50), -1, 5);
        beyond("11 say: person of none", Edge::nothing, (x, v) -> x.say(v, 50), -1, 0);
        beyond("11 say: word", Edge::some, (x, word) -> x.say(0, word), -1, 100);
        beyond("11 say: word, ahead of STATE without LEGS", with(Edge::some, x -> x.rests(0, 0)),
                (x, word) -> x.say(0, word), -1, 100);
        beyond("11 say: word, ahead of STATE of one UP", Edge::some, (x, word) -> x.say(2, word), -1, 100);
        refused("11 say: without LEGS", with(Edge::some, x -> x.rests(0, 0)), x -> x.say(0, 50), STATE);
        refused("11 say: UP", Edge::some, x -> x.say(2, 50), STATE);
        refused("11 say: UP on 20", with(Edge::full, x -> x.carry(4, 20)), x -> x.say(4, 50), STATE);
        refused("11 say: UP with no STEPS", Edge::oneAlone, x -> x.say(0, 50), STATE);
        gives("11 say: the least WORD", judges(0), x -> x.say(0, 0), 1);
        gives("11 say: the largest WORD", judges(0), x -> x.say(0, 99), 1);
        Consumer<StairCourt> oneLeg = with(judges(0), x -> x.rests(0, 1));
        gives("11 say: with one LEG", oneLeg, x -> x.say(0, 0), 1);
        looks("11 say: the last LEG is gone", with(oneLeg, x -> x.say(0, 0)), x -> x.personIs(0, 1), 0);
        refused("11 say: the last LEG is gone, AT a STEP", with(judges(0, 0).andThen(x -> x.rests(0, 1)),
                x -> x.say(0, 0)), x -> x.say(0, 0), STATE);
    }

    /** Where one comes to, from the lowest STEPS and to the highest. */
    private static void promise11goes() {
        Consumer<StairCourt> five = judges(9, 9, 9, 9, 9);
        int[] falls = {0, 0, 0, 1, 2};
        for (int at = 0; at < 5; at++) {
            int from = at;
            gives("11 say: down 2, 0 at least, from " + at, with(five, x -> x.carry(0, from)), x -> x.say(0, 0), falls[at]);
            gives("11 say: to the next STEP from " + at, with(five, x -> x.carry(0, from)), x -> x.say(0, 99), at + 1);
            looks("11 say: FALLS by one more from " + at, with(with(five, x -> x.carry(0, from)), x -> x.say(0, 0)),
                    x -> x.personIs(0, 3), 1);
            looks("11 say: no FALLS by the next STEP from " + at,
                    with(with(five, x -> x.carry(0, from)), x -> x.say(0, 99)), x -> x.personIs(0, 3), 0);
        }
        Consumer<StairCourt> last = with(steps(20), x -> x.carry(0, 19));
        gives("11 say: UP from 19", last, x -> x.say(0, 0), 20);
        looks("11 say: is UP from 19", with(last, x -> x.say(0, 0)), x -> x.personIs(0, 4), 1);
        gives("11 say: down 2 from 19", with(last, x -> x.become(19, 9)), x -> x.say(0, 0), 17);
        looks("11 say: HEARD is 1 more by a fall", said(0, 1, 9), x -> x.stepIs(0, 2), 1);
        looks("11 say: HEARD is 1 more by the next STEP", said(99, 1, 9), x -> x.stepIs(0, 2), 1);
        gives("11 say: CONTENT as ahead of HEARD 1", said(0, 0, 60), x -> x.say(0, 0), 1);
        gives("11 say: not CONTENT as ahead of HEARD 2", with(said(0, 1, 60), x -> x.carry(0, 0)), x -> x.say(0, 0), 0);
    }

    private static void promise11held() {
        looks("11 HEARD: 9998", heard(60, 9998), x -> x.stepIs(0, 2), 9998);
        gives("11 HEARD: MUTE by 9998", heard(60, 9998), x -> x.say(0, 0), 1);
        looks("11 HEARD: 9999", heard(60, 9999), x -> x.stepIs(0, 2), 9999);
        looks("11 HEARD: WANTS by 9999", with(heard(60, 9999), x -> x.become(0, 0)), x -> x.stepIs(0, 3), 19);
        gives("11 HEARD: MUTE by 9999", heard(60, 9999), x -> x.say(0, 0), 0);
        Consumer<StairCourt> more = with(heard(60, 9999), x -> x.say(0, 0));
        looks("11 HEARD: held at 9999", more, x -> x.stepIs(0, 2), 9999);
        gives("11 HEARD: MUTE, held", more, x -> x.say(0, 0), 0);
        looks("11 HEARD: held at 9999 by loose", with(more, x -> x.loose(1)), x -> x.stepIs(0, 2), 9999);
        promise11falls();
    }

    private static void promise11falls() {
        StairCourt x = made(Edge::fellOften);
        for (int i = 0; i < 8; i++) {
            x.say(0, 0);
        }
        due("11 FALLS: 9998", x.personIs(0, 3), 9998);
        due("11 FALLS: one more, AT", x.say(0, 0), 0);
        due("11 FALLS: 9999", x.personIs(0, 3), 9999);
        due("11 FALLS: one more than 9999, AT", x.say(0, 0), 0);
        due("11 FALLS: held at 9999", x.personIs(0, 3), 9999);
        due("11 FALLS: held by loose, which tells of it", x.loose(1), 1);
        due("11 FALLS: held at 9999 by loose", x.personIs(0, 3), 9999);
    }

    /** PAID is held at 99999 too, which 512 calls of 99 at the most don't come to. */
    private static void promise12() {
        beyond("12 bribe: person", Edge::some, (x, v) -> x.bribe(v), -1, 3);
        beyond("12 bribe: person of five", Edge::full, (x, v) -> x.bribe(v), -1, 5);
        beyond("12 bribe: person of none", Edge::nothing, (x, v) -> x.bribe(v), -1, 0);
        refused("12 bribe: without LEGS", with(Edge::some, x -> x.rests(0, 0)), x -> x.bribe(0), STATE);
        refused("12 bribe: UP", Edge::some, x -> x.bribe(2), STATE);
        refused("12 bribe: UP on 20", with(Edge::full, x -> x.carry(4, 20)), x -> x.bribe(4), STATE);
        refused("12 bribe: UP with no STEPS", Edge::oneAlone, x -> x.bribe(0), STATE);
        Consumer<StairCourt> oneLeg = with(judges(0, 0), x -> x.rests(0, 1));
        gives("12 bribe: with one LEG", oneLeg, x -> x.bribe(0), 10);
        looks("12 bribe: AT the next STEP", with(oneLeg, x -> x.bribe(0)), x -> x.personIs(0, 0), 1);
        looks("12 bribe: the last LEG is gone", with(oneLeg, x -> x.bribe(0)), x -> x.personIs(0, 1), 0);
        looks("12 bribe: HEARD stays", with(oneLeg, x -> x.bribe(0)), x -> x.stepIs(0, 2), 0);
        looks("12 bribe: FALLS stay", with(oneLeg, x -> x.bribe(0)), x -> x.personIs(0, 3), 0);
        refused("12 bribe: the last LEG was given", with(oneLeg, x -> x.bribe(0)), x -> x.bribe(0), STATE);
        Consumer<StairCourt> last = with(steps(20), x -> x.carry(0, 19));
        looks("12 bribe: UP from 19", with(last, x -> x.bribe(0)), x -> x.personIs(0, 4), 1);
        gives("12 bribe: none of the MUTE", judges(60), x -> x.bribe(0), 0);
        looks("12 bribe: PAID by none", with(judges(60), x -> x.bribe(0)), x -> x.personIs(0, 2), 0);
        Consumer<StairCourt> dear = with(judges(0), x -> Due.text(x, 1, "b*10"));
        gives("12 bribe: the most", dear, x -> x.bribe(0), 99);
        looks("12 bribe: PAID by the most", with(dear, x -> x.bribe(0)), x -> x.personIs(0, 2), 99);
        Consumer<StairCourt> cheap = with(judges(0), x -> Due.text(x, 1, "b-11"));
        gives("12 bribe: held at 0", cheap, x -> x.bribe(0), 0);
        looks("12 bribe: PAID by what is held at 0", with(cheap, x -> x.bribe(0)), x -> x.personIs(0, 2), 0);
    }
}
