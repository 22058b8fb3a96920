import java.util.function.Consumer;
import java.util.function.ToLongFunction;

/** Boundary cases of promises 20 to 25 and of terms 3, each a test of its own. */
public final class EdgeThoughtTest extends Edge {
    public static void main(String[] args) {
        promise20();
        promise21();
        promise21state();
        promise21goes();
        promise21held();
        promise22();
        promise22many();
        promise22first();
        promise23();
        promise23numbers();
        promise24();
        promise24fractions();
        promise25();
        promise25fits();
        Due.end("EdgeThoughtTest");
    }

    private static Consumer<StairCourt> heeds(Consumer<StairCourt> state, String text) {
        return with(state, x -> Due.text(x, 0, text));
    }

    private static Consumer<StairCourt> sheet(Consumer<StairCourt> state, int bits, int... numbers) {
        return state.andThen(x -> Due.sheet(x, 0, bits, numbers));
    }

    private static void promise20() {
        beyond("20 words: step", Edge::some, (x, v) -> x.words(v, 0), -1, 7);
        beyond("20 words: step of twenty", Edge::full, (x, v) -> x.words(v, 1), -1, 20);
        beyond("20 words: step of none", Edge::nothing, (x, v) -> x.words(v, 0), -1, 0);
        beyond("20 words: what", Edge::some, (x, what) -> x.words(0, what), -1, 2);
        beyond("20 words: what, ahead of NONE", heeds(judges(0), "0"), (x, what) -> x.words(0, what), -1, 2);
        refused("20 words: there is none", heeds(judges(0), "0"), x -> x.words(0, 1), NONE);
        refused("20 words: there is none of the DEAF by morning", judges(40), x -> x.words(0, 1), NONE);
        looks("20 words: none, how many", heeds(judges(0), "0"), x -> x.words(0, 0), 0);
        looks("20 words: all, how many", judges(0), x -> x.words(0, 0), 100);
        looks("20 words: all, the least", judges(0), x -> x.words(0, 1), 0);
        looks("20 words: one, how many", heeds(judges(0), "w=99"), x -> x.words(0, 0), 1);
        looks("20 words: one, the largest WORD", heeds(judges(0), "w=99"), x -> x.words(0, 1), 99);
        looks("20 words: one, the least WORD", heeds(judges(0), "w=0"), x -> x.words(0, 1), 0);
        looks("20 words: no WORD is 100", heeds(judges(0), "w>99"), x -> x.words(0, 0), 0);
        looks("20 words: no WORD is -1", heeds(judges(0), "w<0"), x -> x.words(0, 0), 0);
        looks("20 words: the twentieth", heeds(with(steps(19), x -> x.step(50)), "1"), x -> x.words(19, 0), 71);
        looks("20 words: MUTE by 9999 HEARD", heard(60, 9999), x -> x.words(0, 0), 0);
    }

    private static void promise21() {
        Consumer<StairCourt> bad = sheet(Edge::some, 8, 100);
        beyond("21 climb: person", Edge::some, (x, v) -> x.climb(v, 0, 0), -1, 3);
        beyond("21 climb: person of none", Edge::nothing, (x, v) -> x.climb(v, 0, 0), -1, 0);
        beyond("21 climb: person of five", Edge::full, (x, v) -> x.climb(v, 3, 0), -1, 5);
        beyond("21 climb: sheet", Edge::some, (x, v) -> x.climb(0, v, 0), -1, 4);
        beyond("21 climb: what", Edge::some, (x, what) -> x.climb(0, 0, what), -1, 3);
        beyond("21 climb: person, ahead of NONE", Edge::some, (x, v) -> x.climb(v, 3, 0), -1, 3);
        beyond("21 climb: what, ahead of NONE", Edge::some, (x, what) -> x.climb(0, 3, what), -1, 3);
        beyond("21 climb: person, ahead of STATE", bad, (x, v) -> x.climb(v, 0, 0), -1, 3);
        beyond("21 climb: what, ahead of STATE", bad, (x, what) -> x.climb(0, 0, what), -1, 3);
        refused("21 climb: the SHEET is missing, what", Edge::some, (x, what) -> x.climb(0, 3, what), NONE, 0, 1, 2);
        refused("21 climb: the SHEET is missing again", with(Edge::some, x -> x.sheet(0, 0, 5)),
                x -> x.climb(0, 0, 0), NONE);
        looks("21 climb: the first of PEOPLE, the first SHEET, the largest what", Edge::some, x -> x.climb(0, 0, 2), 3);
        looks("21 climb: the fifth of PEOPLE, the last SHEET", with(Edge::full, x -> x.carry(4, 0)),
                x -> x.climb(4, 3, 1), 4);
    }

    private static void promise21state() {
        for (int what = 0; what <= 2; what++) {
            int asked = what;
            refused("21 climb: 100 is no WORD, what " + what, sheet(judges(0), 8, 100), x -> x.climb(0, 0, asked), STATE);
        }
        refused("21 climb: -1 is no WORD", sheet(judges(0), 32, -1), x -> x.climb(0, 0, 0), STATE);
        refused("21 climb: MIN is no WORD", sheet(judges(0), 32, MIN), x -> x.climb(0, 0, 0), STATE);
        refused("21 climb: MAX is no WORD", sheet(judges(0), 32, MAX), x -> x.climb(0, 0, 0), STATE);
        refused("21 climb: 255 of 8 bits is no WORD", sheet(judges(0), 8, 255), x -> x.climb(0, 0, 0), STATE);
        refused("21 climb: 65535 of 16 bits is no WORD", sheet(judges(0), 16, 65535), x -> x.climb(0, 0, 0), STATE);
        refused("21 climb: the last number is no WORD, which none comes to", sheet(judges(0), 8, 0, 0, 0, 100),
                x -> x.climb(0, 0, 0), STATE);
        refused("21 climb: no WORD, without LEGS", with(sheet(judges(0), 8, 100), x -> x.rests(0, 0)),
                x -> x.climb(0, 0, 0), STATE);
        refused("21 climb: no WORD, UP", with(sheet(judges(0), 8, 100), x -> x.carry(0, 1)), x -> x.climb(0, 0, 0), STATE);
        refused("21 climb: the last of 24 is no WORD", with(with(judges(0), x -> x.sheet(0, 8, 24)),
                x -> x.put(0, 23, 100)), x -> x.climb(0, 0, 0), STATE);
        looks("21 climb: 99 is a WORD", sheet(judges(0), 8, 99), x -> x.climb(0, 0, 0), 1);
        looks("21 climb: 0 is a WORD", sheet(judges(0), 8, 0), x -> x.climb(0, 0, 0), 1);
    }

    private static void climbs(String edge, Consumer<StairCourt> state, int at, int said, int fell) {
        looks("21 CLIMB: " + edge + ", AT", state, x -> x.climb(0, 0, 0), at);
        looks("21 CLIMB: " + edge + ", how many said", state, x -> x.climb(0, 0, 1), said);
        looks("21 CLIMB: " + edge + ", how often one fell", state, x -> x.climb(0, 0, 2), fell);
    }

    private static void promise21goes() {
        Consumer<StairCourt> three = judges(9, 9, 9);
        climbs("an empty SHEET", sheet(three, 32), 0, 0, 0);
        climbs("one WORD", sheet(three, 32, 99), 1, 1, 0);
        climbs("one WORD, which falls AT 0", sheet(three, 32, 0), 0, 1, 1);
        climbs("as many WORDS as STEPS", sheet(three, 8, 99, 99, 99), 3, 3, 0);
        climbs("one WORD more than STEPS", sheet(three, 8, 99, 99, 99, 99), 3, 3, 0);
        climbs("one WORD less than STEPS", sheet(three, 8, 99, 99), 2, 2, 0);
        climbs("down 2 from 2", sheet(three, 8, 99, 99, 0), 0, 3, 1);
        climbs("down 2 from 1, 0 at least", sheet(three, 8, 99, 0), 0, 2, 1);
        climbs("UP", with(sheet(three, 8, 0, 0), x -> x.carry(0, 3)), 3, 0, 0);
        climbs("no LEGS", with(sheet(three, 8, 99, 99), x -> x.rests(0, 0)), 0, 0, 0);
        climbs("one LEG", with(sheet(three, 8, 99, 99), x -> x.rests(0, 1)), 1, 1, 0);
        climbs("as many LEGS as WORDS", with(sheet(three, 8, 99, 0, 99), x -> x.rests(0, 3)), 1, 3, 1);
        climbs("no STEPS", sheet(Edge::oneAlone, 8, 99), 0, 0, 0);
        climbs("24 WORDS, all falls", with(with(three, x -> x.rests(0, 999)), x -> x.sheet(0, 8, 24)), 0, 24, 24);
        climbs("24 WORDS, 23 LEGS", with(with(three, x -> x.rests(0, 23)), x -> x.sheet(0, 8, 24)), 0, 23, 23);
        climbs("HEARD counts within it", sheet(judges(60, 69), 8, 0, 0, 0, 0), 1, 4, 2);
        climbs("from the last STEP of twenty", with(sheet(steps(20), 8, 0, 0), x -> x.carry(0, 19)), 20, 1, 0);
        looks("21 CLIMB: nothing HEARD by it", sheet(three, 8, 99, 0), x -> x.climb(0, 0, 2), 1);
    }

    /** What is held stays held within a CLIMB. */
    private static void promise21held() {
        climbs("MUTE by 9999 HEARD, held", sheet(heard(60, 9999), 8, 0, 0, 0), 0, 3, 3);
        climbs("MUTE by 9998 HEARD", sheet(heard(69, 9998), 8, 99, 99), 1, 1, 0);
        climbs("MUTE by 9998 HEARD, held behind 9999", sheet(heard(69, 9998), 8, 0, 99, 99), 0, 3, 3);
        StairCourt x = made(Edge::fellOften);
        x.sheet(0, 8, 10);
        due("21 CLIMB: 9990 FALLS and 10, held, how many said", x.climb(0, 0, 1), 10);
        due("21 CLIMB: 9990 FALLS and 10, held, how often one fell", x.climb(0, 0, 2), 10);
        due("21 CLIMB: only thought", x.personIs(0, 3), 9990);
    }

    private static void promise22() {
        Consumer<StairCourt> none = heeds(with(Edge::some, x -> x.text(1)), "0");
        beyond("22 fewest: person", Edge::some, (x, v) -> x.fewest(v, 0), -1, 3);
        beyond("22 fewest: person of none", Edge::nothing, (x, v) -> x.fewest(v, -1), -1, 0);
        beyond("22 fewest: person of five", Edge::full, (x, v) -> x.fewest(v, -1), -1, 5);
        beyond("22 fewest: what", Edge::some, (x, what) -> x.fewest(0, what), -2, 3);
        beyond("22 fewest: person, ahead of NONE", none, (x, v) -> x.fewest(v, 0), -1, 3);
        beyond("22 fewest: what, ahead of NONE", none, (x, what) -> x.fewest(0, what), -2, 3);
        refused("22 fewest: not by 3, what", judges(31, 32, 33, 34), (x, what) -> x.fewest(0, what), NONE, -1, 0, 1, 2);
        refused("22 fewest: one judge is CONTENT with nothing, what", none, (x, what) -> x.fewest(0, what), NONE, -1, 2);
        refused("22 fewest: twenty judges, not by 3", heeds(steps(20), "w%20=s"), x -> x.fewest(0, -1), NONE);
        refused("22 fewest: the fourth alone is not CONTENT", heeds(with(steps(20), x -> x.carry(0, 17)),
                "w%20=s&!(s=19)"), x -> x.fewest(0, -1), NONE);
    }

    private static void fewest(String edge, Consumer<StairCourt> state, int many, int first, int second, int third) {
        looks("22 FEWEST: " + edge + ", how many", state, x -> x.fewest(0, -1), many);
        looks("22 FEWEST: " + edge + ", WORD 0", state, x -> x.fewest(0, 0), first);
        looks("22 FEWEST: " + edge + ", WORD 1", state, x -> x.fewest(0, 1), second);
        looks("22 FEWEST: " + edge + ", WORD 2", state, x -> x.fewest(0, 2), third);
    }

    private static void promise22many() {
        fewest("no judges", Edge::oneAlone, 0, -1, -1, -1);
        fewest("UP", with(judges(31, 32, 33, 34), x -> x.carry(0, 4)), 0, -1, -1, -1);
        fewest("UP on 20", with(steps(20), x -> x.carry(0, 20)), 0, -1, -1, -1);
        fewest("one judge", judges(30), 1, 0, -1, -1);
        fewest("one judge, the largest WORD", heeds(judges(0), "w=99"), 1, 99, -1, -1);
        fewest("two judges by one WORD", judges(35, 7), 1, 35, -1, -1);
        fewest("two judges by two WORDS", judges(31, 30), 2, 0, 7, -1);
        fewest("three judges by three WORDS", judges(33, 32, 31), 3, 7, 14, 21);
        fewest("judges from AT on alone", with(judges(31, 32, 33, 34), x -> x.carry(0, 1)), 3, 14, 21, 28);
        fewest("the last judge alone", with(judges(31, 32, 33, 34), x -> x.carry(0, 3)), 1, 28, -1, -1);
        fewest("twenty judges by one WORD", with(steps(20), x -> x.rests(0, 0)), 1, 0, -1, -1);
        fewest("twenty judges by three WORDS", heeds(steps(20), "w%3=s%3"), 3, 0, 1, 2);
        fewest("the last three of twenty", heeds(with(steps(20), x -> x.carry(0, 17)), "w%20=s"), 3, 17, 18, 19);
        fewest("the largest three WORDS", heeds(steps(3), "w=97+s"), 3, 97, 98, 99);
        fewest("fewer behind more", with(judges(31, 32, 33), x -> x.fewest(0, 0)).andThen(x -> x.carry(0, 2)), 1, 21, -1, -1);
        fewest("none behind more", with(judges(31, 32, 33), x -> x.fewest(0, 0)).andThen(x -> x.carry(0, 3)), 0, -1, -1, -1);
        fewest("as things are now, HOUR 12", with(judges(40), x -> x.hours(12)), 1, 0, -1, -1);
    }

    /** Of several the first by numbers, rising. */
    private static void promise22first() {
        fewest("of a hundred the first", judges(0), 1, 0, -1, -1);
        fewest("of two the first", heeds(judges(0), "w=50|w=98"), 1, 50, -1, -1);
        // 3 is for both; with fewer words 1 and 2 are ahead of it, but they are two.
        fewest("fewer is ahead of a smaller number", heeds(judges(0, 0), "w=1+s|w=3"), 1, 3, -1, -1);
        fewest("the second as small as can be", heeds(judges(0, 0), "s=0&(w=9|w=50)|s=1&(w=20|w=60)"), 2, 9, 20, -1);
        fewest("the first smaller, the second larger", heeds(judges(0, 0), "s=0&(w=9|w=20)|s=1&(w=70|w=71)"), 2, 9, 70, -1);
        fewest("the third as small as can be", heeds(judges(0, 0, 0), "w=10+s|w=20+s"), 3, 10, 11, 12);
        fewest("for two of three judges one WORD", heeds(judges(0, 0, 0), "w=10&s<2|w=4&s=2"), 2, 4, 10, -1);
    }

    private static void promise23() {
        beyond("23 cheapest: person", Edge::some, (x, v) -> x.cheapest(v, 0, 0), -1, 3);
        beyond("23 cheapest: person of none", Edge::nothing, (x, v) -> x.cheapest(v, 0, 0), -1, 0);
        beyond("23 cheapest: person of five", Edge::full, (x, v) -> x.cheapest(v, 3, 0), -1, 5);
        beyond("23 cheapest: sheet", Edge::some, (x, v) -> x.cheapest(0, v, 0), -1, 4);
        beyond("23 cheapest: what", Edge::some, (x, what) -> x.cheapest(0, 0, what), -1, 2);
        beyond("23 cheapest: person, ahead of NONE", Edge::some, (x, v) -> x.cheapest(v, 3, 0), -1, 3);
        beyond("23 cheapest: what, ahead of NONE", Edge::some, (x, what) -> x.cheapest(0, 3, what), -1, 2);
        refused("23 cheapest: the SHEET is missing, what", Edge::some, (x, what) -> x.cheapest(0, 3, what), NONE, 0, 1);
        refused("23 cheapest: the SHEET is missing, UP", with(Edge::some, x -> x.carry(0, 7)),
                x -> x.cheapest(0, 3, 0), NONE);
    }

    private static void cheapest(String edge, Consumer<StairCourt> state, int sum, int whose) {
        looks("23 CHEAPEST: " + edge + ", together", state, x -> x.cheapest(0, 0, 0), sum);
        looks("23 CHEAPEST: " + edge + ", whose", state, x -> x.cheapest(0, 0, 1), whose);
    }

    private static void promise23numbers() {
        Consumer<StairCourt> two = judges(9, 19);
        cheapest("an empty SHEET, all", sheet(two, 8), 29, 3);
        cheapest("no judges", sheet(Edge::oneAlone, 8), 0, 0);
        cheapest("UP", with(sheet(two, 8), x -> x.carry(0, 2)), 0, 0);
        cheapest("AT the last", with(sheet(two, 8), x -> x.carry(0, 1)), 19, 2);
        cheapest("all are CONTENT", sheet(two, 8, 99), 0, 0);
        cheapest("none is CONTENT", sheet(two, 8, 44), 29, 3);
        cheapest("CONTENT with the last number", sheet(two, 8, 0, 1, 44, 98), 19, 2);
        cheapest("each CONTENT with another number", sheet(judges(31, 32), 8, 14, 7), 0, 0);
        cheapest("0 is a WORD", sheet(judges(30), 32, 0), 0, 0);
        cheapest("99 is a WORD", sheet(judges(0), 32, 99), 0, 0);
        for (int number : new int[] {-1, 100, 255, 65535, 107, MIN, MAX}) {
            cheapest(number + " is no WORD, no ERROR", sheet(judges(0), 32, number), 10, 1);
            cheapest(number + " is no WORD, a WORD behind it", sheet(judges(0), 32, number, 50), 0, 0);
        }
        cheapest("twenty judges", sheet(steps(20), 8), 200, (1 << 20) - 1);
        cheapest("the twentieth alone", with(sheet(steps(20), 8), x -> x.carry(0, 19)), 10, 1 << 19);
        cheapest("as dear as can be", with(sheet(steps(20), 8), x -> Due.text(x, 1, "99")), 20 * 99, (1 << 20) - 1);
        cheapest("without LEGS all the same", with(sheet(two, 8), x -> x.rests(0, 0)), 29, 3);
        cheapest("the 24th number", with(with(two, x -> x.sheet(0, 8, 24)), x -> x.put(0, 23, 99)), 0, 0);
        cheapest("of the MUTE, 0", sheet(judges(60, 69), 8), 0, 3);
    }

    private static void promise24() {
        beyond("24 odds: person", Edge::some, (x, v) -> (int) x.odds(v, 1, 0), -1, 3);
        beyond("24 odds: person of none", Edge::nothing, (x, v) -> (int) x.odds(v, 0, 0), -1, 0);
        beyond("24 odds: person of five", Edge::full, (x, v) -> (int) x.odds(v, 4, 1), -1, 5);
        beyond("24 odds: n", Edge::some, (x, n) -> (int) x.odds(0, n, 0), -1, 5);
        beyond("24 odds: part", Edge::some, (x, part) -> (int) x.odds(0, 1, part), -1, 2);
        ToLongFunction<StairCourt> outside = x -> x.odds(0, 5, 0);
        refused("24 odds: BEYOND in a long", Edge::some, outside, BEYOND);
    }

    private static void odds(String edge, Consumer<StairCourt> state, int n, long above, long below) {
        looks("24 ODDS: " + edge + ", above", state, x -> x.odds(0, n, 0), above);
        looks("24 ODDS: " + edge + ", below", state, x -> x.odds(0, n, 1), below);
    }

    private static void promise24fractions() {
        odds("by 0", judges(39), 0, 1, 1);
        odds("by 4 of no judges", Edge::oneAlone, 4, 1, 1);
        odds("by 4, UP", with(judges(39), x -> x.carry(0, 1)), 4, 1, 1);
        odds("by 0, UP", with(judges(39), x -> x.carry(0, 1)), 0, 1, 1);
        odds("by 4, UP on 20", with(steps(20), x -> x.carry(0, 20)), 4, 1, 1);
        odds("of all WORDS", judges(0), 1, 1, 1);
        odds("of all WORDS by 4", judges(0, 0, 0, 0), 4, 1, 1);
        odds("of one WORD", judges(39), 1, 1, 100);
        odds("of one WORD each by 4", judges(39, 38, 37, 36), 4, 1, 100000000);
        odds("of 99 WORDS each by 4", heeds(judges(0, 0, 0, 0), "w"), 4, 99L * 99 * 99 * 99, 100000000);
        odds("of no WORD", heeds(judges(0), "0"), 1, 0, 1);
        odds("of no WORD, the first of 4", judges(40, 39, 38, 37), 4, 0, 1);
        odds("of no WORD, the last of 4", judges(39, 38, 37, 40), 4, 0, 1);
        odds("of no WORD behind the n", judges(39, 40), 1, 1, 100);
        odds("in lowest terms", judges(4), 1, 4, 5);
        odds("in lowest terms by both", judges(4, 5), 2, 3, 5);
        odds("in no lower terms", judges(39, 59), 1, 1, 100);
        odds("by 4, four judges of five", judges(4, 4, 4, 4, 40), 4, 256, 625);
        odds("by 4, three judges", judges(4, 4, 4), 4, 64, 125);
        odds("by 1, the last judge", with(judges(40, 4), x -> x.carry(0, 1)), 1, 4, 5);
        odds("by 4, the last judge", with(judges(40, 4), x -> x.carry(0, 1)), 4, 4, 5);
        odds("by 4 from 19", with(with(steps(20), x -> x.become(19, 4)), x -> x.carry(0, 19)), 4, 4, 5);
        odds("as HEARD now, for each anew", judges(60, 60), 2, 1, 1);
        odds("without LEGS all the same", with(judges(4), x -> x.rests(0, 0)), 1, 4, 5);
    }

    private static void promise25() {
        beyond("25 fits: sheet", Edge::some, (x, v) -> x.fits(v, 0), -1, 4);
        beyond("25 fits: sheet of none", Edge::nothing, (x, v) -> x.fits(v, 1), -1, 4);
        beyond("25 fits: what", Edge::some, (x, what) -> x.fits(0, what), -1, 2);
        beyond("25 fits: what, ahead of NONE", Edge::some, (x, what) -> x.fits(3, what), -1, 2);
        refused("25 fits: the SHEET is missing, what", Edge::some, (x, what) -> x.fits(3, what), NONE, 0, 1);
        refused("25 fits: there is none", sheet(judges(0), 8, 0), x -> x.fits(0, 1), NONE);
        looks("25 fits: there is none, how many", sheet(judges(0), 8, 0), x -> x.fits(0, 0), 0);
    }

    private static void fits(String edge, Consumer<StairCourt> state, int many, int least) {
        looks("25 FITS: " + edge + ", how many", state, x -> x.fits(0, 0), many);
        if (many == 0) {
            refused("25 FITS: " + edge + ", the least", state, x -> x.fits(0, 1), NONE);
        } else {
            looks("25 FITS: " + edge + ", the least", state, x -> x.fits(0, 1), least);
        }
    }

    private static void promise25fits() {
        fits("an empty SHEET, all", sheet(judges(9), 8), 100, 0);
        fits("an empty SHEET of no judges, all", sheet(Edge::nothing, 8), 100, 0);
        fits("CONTENT", sheet(judges(9), 8, 1), 55, 45);
        fits("not CONTENT", sheet(judges(9), 8, 0), 45, 0);
        fits("one WORD alone, the largest", sheet(heeds(judges(0), "w=99"), 8, 1), 1, 99);
        fits("one WORD alone, the least", sheet(heeds(judges(0), "w=0"), 8, 1), 1, 0);
        fits("all but one WORD", sheet(heeds(judges(0), "w=0"), 8, 0), 99, 1);
        fits("none", sheet(judges(0), 8, 0), 0, -1);
        fits("fewer numbers than judges", sheet(judges(9, 40), 8, 1), 55, 45);
        fits("as many numbers as judges", sheet(judges(9, 40), 8, 1, 0), 55, 45);
        for (int number : new int[] {-1, 2, 255, 65536, MIN, MAX}) {
            fits(number + " is neither", sheet(judges(9), 32, number), 0, -1);
        }
        fits("257 of 8 bits is 1", sheet(judges(9), 8, 257), 55, 45);
        fits("256 of 8 bits is 0", sheet(judges(9), 8, 256), 45, 0);
        fits("65537 of 16 bits is 1", sheet(judges(9), 16, 65537), 55, 45);
        // A number for which there is no judge is never so: see NOTES.md.
        fits("one number more than judges, 0", sheet(judges(9), 8, 1, 0), 0, -1);
        fits("one number more than judges, 1", sheet(judges(9), 8, 1, 1), 0, -1);
        fits("a number of no judges", sheet(Edge::nothing, 8, 0), 0, -1);
        fits("twenty judges", with(steps(20), x -> x.sheet(0, 8, 20)).andThen(x -> Due.text(x, 0, "w=7")), 99, 0);
        fits("twenty judges, the twentieth alone", with(with(steps(20), x -> x.sheet(0, 8, 20)), x -> x.put(0, 19, 1))
                .andThen(x -> Due.text(x, 0, "w%20=s")), 5, 19);
        fits("21 numbers of twenty judges", with(steps(20), x -> x.sheet(0, 8, 21)).andThen(x -> Due.text(x, 0, "0")), 0, -1);
    }
}
