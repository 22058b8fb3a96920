import java.util.function.Consumer;

/** Boundary cases of promises 28 to 32, each a test of its own. */
public final class EdgeSheetsTest extends Edge {
    public static void main(String[] args) {
        promise28();
        promise28anew();
        promise29();
        promise29bits();
        promise30();
        promise30order();
        promise30goes();
        promise31();
        promise31goes();
        promise32();
        promise32goes();
        Due.end("EdgeSheetsTest");
    }

    /** Twenty STEPS, five of PEOPLE, and a SHEET 0 of some bits with these numbers. */
    private static Consumer<StairCourt> wide(int bits, int... numbers) {
        return steps(20).andThen(x -> {
            for (int i = 1; i < 5; i++) {
                x.person(9);
            }
            Due.sheet(x, 0, bits, numbers);
        });
    }

    /** The numbers of a SHEET, looked at by carrying PEOPLE. */
    private static void holds(String edge, Consumer<StairCourt> state, int sheet, int... numbers) {
        gives(edge + ": numbers", state, x -> x.carries(sheet), Math.min(5, numbers.length));
        for (int i = 0; i < numbers.length && i < 5; i++) {
            int person = i;
            looks(edge + ": number " + i, with(state, x -> x.carries(sheet)), x -> x.personIs(person, 0), numbers[i]);
        }
        refused(edge + ": no number", state, (x, i) -> x.put(sheet, i, 0), BEYOND, -1, numbers.length);
    }

    private static void promise28() {
        beyond("28 sheet: sheet", Edge::some, (x, v) -> x.sheet(v, 8, 1), -1, 4);
        beyond("28 sheet: sheet, to be missing", Edge::some, (x, v) -> x.sheet(v, 0, 0), -1, 4);
        beyond("28 sheet: sheet, ahead of STATE", Edge::some, (x, v) -> x.sheet(v, 8, -1), -1, 4);
        beyond("28 sheet: bits", Edge::some, (x, bits) -> x.sheet(0, bits, 1), -1, 33);
        refused("28 sheet: bits", Edge::some, (x, bits) -> x.sheet(0, bits, 1), BEYOND, 1, 7, 9, 15, 17, 24, 31, 64, -8);
        refused("28 sheet: bits, ahead of STATE", Edge::some, (x, bits) -> x.sheet(0, bits, -1), BEYOND, -8, 1, 64);
        for (int bits = 8; bits <= 32; bits *= 2) {
            int some = bits;
            refused("28 sheet: n below 0, bits " + bits, Edge::some, (x, n) -> x.sheet(0, some, n), STATE, -1, -2, MIN);
            refused("28 sheet: n above 24, bits " + bits, Edge::some, (x, n) -> x.sheet(0, some, n), BEYOND, 25, 26, MAX);
            gives("28 sheet: the fewest, bits " + bits, Edge::some, x -> x.sheet(0, some, 0), 1);
            gives("28 sheet: the most, bits " + bits, Edge::some, x -> x.sheet(3, some, 24), 1);
        }
        for (int n : new int[] {MIN, -1, 0, 24, 25, MAX}) {
            gives("28 sheet: missing, n doesn't matter " + n, Edge::some, x -> x.sheet(1, 0, n), 1);
            refused("28 sheet: is missing, n was " + n, with(Edge::some, x -> x.sheet(1, 0, n)), x -> x.judge(1), NONE);
        }
        gives("28 sheet: missing that was so", Edge::some, x -> x.sheet(3, 0, 0), 1);
    }

    private static void promise28anew() {
        Consumer<StairCourt> three = wide(8, 7, 8, 9);
        holds("28 sheet: all 0, as many", with(three, x -> x.sheet(0, 8, 3)), 0, 0, 0, 0);
        holds("28 sheet: all 0, more", with(three, x -> x.sheet(0, 8, 4)), 0, 0, 0, 0, 0);
        holds("28 sheet: all 0, fewer", with(three, x -> x.sheet(0, 16, 2)), 0, 0, 0);
        holds("28 sheet: none", with(three, x -> x.sheet(0, 32, 0)), 0);
        holds("28 sheet: all 0, behind missing", with(three, x -> x.sheet(0, 0, 0)).andThen(x -> x.sheet(0, 8, 3)), 0, 0, 0, 0);
        holds("28 sheet: the others stay", with(three, x -> x.sheet(1, 8, 3)), 0, 7, 8, 9);
        gives("28 sheet: the 24th number", with(three, x -> x.sheet(3, 32, 24)), x -> x.put(3, 23, 1), 1);
        refused("28 sheet: no 25th number", with(three, x -> x.sheet(3, 32, 24)), x -> x.put(3, 24, 1), BEYOND);
        holds("28 sheet: 24, all 0", with(three, x -> x.sheet(0, 8, 24)).andThen(x -> x.move(0, 19, 0, 0, 5)), 0,
                new int[24]);
    }

    private static void promise29() {
        beyond("29 put: sheet", Edge::some, (x, v) -> x.put(v, 0, 1), -1, 4);
        beyond("29 put: sheet, ahead of the number", Edge::some, (x, v) -> x.put(v, 99, 1), -1, 4);
        refused("29 put: the SHEET is missing", Edge::some, x -> x.put(3, 0, 1), NONE);
        refused("29 put: missing, ahead of the number", Edge::some, (x, i) -> x.put(3, i, 1), NONE, -1, 24, MIN, MAX);
        beyond("29 put: number of three", Edge::some, (x, i) -> x.put(0, i, 1), -1, 3);
        beyond("29 put: number of none", Edge::some, (x, i) -> x.put(2, i, 1), -1, 0);
        beyond("29 put: number of 24", Edge::full, (x, i) -> x.put(3, i, 1), -1, 24);
        gives("29 put: the first number", wide(8, 1, 2, 3), x -> x.put(0, 0, 9), 1);
        holds("29 put: the first number", with(wide(8, 1, 2, 3), x -> x.put(0, 0, 9)), 0, 9, 2, 3);
        holds("29 put: the last number", with(wide(8, 1, 2, 3), x -> x.put(0, 2, 9)), 0, 1, 2, 9);
        holds("29 put: one behind the last", with(wide(8, 1, 2, 3), x -> x.put(0, 3, 9)), 0, 1, 2, 3);
        gives("29 put: the 24th number", Edge::full, x -> x.put(3, 23, 9), 1);
    }

    /** The lowest bits of a number; what is above them is gone. */
    private static void bits(int bits, int number, int want) {
        String edge = "29 put: " + number + " of " + bits + " bits";
        if (want >= 0) {
            holds(edge, wide(bits, number), 0, want);
        } else {
            looks(edge + " is no STEP", wide(bits, number), x -> x.carries(0), 0);
            looks(edge + " is not 0", wide(bits, number), x -> x.judge(0), 0);
        }
    }

    private static void promise29bits() {
        int[] shifts = {8, 16, 24, 31};
        int[] kept = {8, 16, 32};
        for (int bits : kept) {
            for (int shift : shifts) {
                bits(bits, (1 << shift) + 5, shift >= bits ? 5 : -1);
                bits(bits, 1 << shift, shift >= bits ? 0 : -1);
            }
            bits(bits, 1 << bits - 1, -1);
            bits(bits, -1, -1);
            bits(bits, 0, 0);
            bits(bits, 20, 20);
        }
        bits(8, 255, -1);
        bits(8, 256 + 20, 20);
        bits(8, 20 - 256, 20);
        bits(16, 65535, -1);
        bits(16, 65536 + 20, 20);
        bits(16, -65536 + 20, 20);
        bits(16, 256 + 20, -1);
        bits(32, MIN + 20, -1);
        bits(32, 65536 + 20, -1);
        bits(8, MAX, -1);
        bits(16, MAX, -1);
        bits(32, MAX, -1);
    }

    private static void promise30() {
        beyond("30 move: sheet", Edge::some, (x, v) -> x.move(v, 0, 0, 0, 1), -1, 4);
        beyond("30 move: other", Edge::some, (x, v) -> x.move(0, 0, v, 0, 1), -1, 4);
        refused("30 move: the SHEET is missing", Edge::some, x -> x.move(3, 0, 0, 0, 0), NONE);
        refused("30 move: the other is missing", Edge::some, x -> x.move(0, 0, 3, 0, 0), NONE);
        refused("30 move: both are missing", Edge::some, x -> x.move(3, 0, 3, 0, 0), NONE);
        refused("30 move: 8 and 16 bits", Edge::some, x -> x.move(0, 0, 1, 0, 1), KIND);
        refused("30 move: 16 and 8 bits", Edge::some, x -> x.move(1, 0, 0, 0, 1), KIND);
        refused("30 move: 8 and 32 bits, none", Edge::some, x -> x.move(0, 0, 2, 0, 0), KIND);
        refused("30 move: 32 and 16 bits, none", Edge::some, x -> x.move(2, 0, 1, 0, 0), KIND);
        Consumer<StairCourt> two = wide(8, 1, 2, 3).andThen(x -> Due.sheet(x, 1, 8, 4, 5));
        beyond("30 move: i by 1", two, (x, i) -> x.move(0, i, 1, 0, 1), -1, 3);
        beyond("30 move: i by 2", two, (x, i) -> x.move(0, i, 1, 0, 2), -1, 2);
        beyond("30 move: i by 0", two, (x, i) -> x.move(0, i, 1, 0, 0), -1, 4);
        beyond("30 move: j by 1", two, (x, j) -> x.move(0, 0, 1, j, 1), -1, 2);
        beyond("30 move: j by 2", two, (x, j) -> x.move(0, 0, 1, j, 2), -1, 1);
        beyond("30 move: j by 0", two, (x, j) -> x.move(0, 0, 1, j, 0), -1, 3);
        beyond("30 move: n, they don't stand in the other", two, (x, n) -> x.move(0, 0, 1, 0, n), -1, 3);
        beyond("30 move: n, they don't stand in the SHEET", two, (x, n) -> x.move(1, 0, 0, 0, n), -1, 3);
        beyond("30 move: n from the last on", two, (x, n) -> x.move(0, 2, 1, 0, n), -1, 2);
        beyond("30 move: n to the last", two, (x, n) -> x.move(0, 0, 1, 1, n), -1, 2);
        beyond("30 move: n of none", Edge::some, (x, n) -> x.move(2, 0, 2, 0, n), -1, 1);
        refused("30 move: i and n wrap", two, x -> x.move(0, MAX, 1, 0, MAX), BEYOND);
        refused("30 move: j and n wrap", two, x -> x.move(0, 0, 1, MAX, 2), BEYOND);
        refused("30 move: i below 0, n above", two, x -> x.move(0, -1, 1, 0, 2), BEYOND);
        refused("30 move: within the same, they don't stand there", two, x -> x.move(0, 1, 0, 0, 3), BEYOND);
        refused("30 move: 25 of 24", Edge::full, x -> x.move(3, 0, 3, 0, 25), BEYOND);
    }

    private static void promise30order() {
        refused("30 move: sheet, ahead of the missing other", Edge::some, x -> x.move(4, 0, 3, 0, 0), BEYOND);
        refused("30 move: other, ahead of the missing SHEET", Edge::some, x -> x.move(3, 0, 4, 0, 0), BEYOND);
        refused("30 move: other -1, ahead of the missing SHEET", Edge::some, x -> x.move(3, 0, -1, 0, 0), BEYOND);
        refused("30 move: missing, ahead of unlike bits", Edge::some, x -> x.move(0, 0, 3, 0, 1), NONE);
        refused("30 move: missing, ahead of n", Edge::some, (x, n) -> x.move(3, 0, 0, 0, n), NONE, -1, 99, MIN, MAX);
        refused("30 move: missing, ahead of i", Edge::some, (x, i) -> x.move(3, i, 0, 0, 1), NONE, -1, 99);
        refused("30 move: missing, ahead of j", Edge::some, (x, j) -> x.move(0, 0, 3, j, 1), NONE, -1, 99);
        refused("30 move: unlike bits, ahead of n", Edge::some, (x, n) -> x.move(0, 0, 1, 0, n), KIND, -1, 99, MIN, MAX);
        refused("30 move: unlike bits, ahead of i", Edge::some, (x, i) -> x.move(0, i, 1, 0, 1), KIND, -1, 99);
        refused("30 move: unlike bits, ahead of j", Edge::some, (x, j) -> x.move(0, 0, 1, j, 1), KIND, -1, 99);
    }

    private static void moves(String edge, int i, int j, int n, int... numbers) {
        Consumer<StairCourt> five = wide(8, 1, 2, 3, 4, 5);
        gives("30 move: " + edge, five, x -> x.move(0, i, 0, j, n), n);
        holds("30 move: " + edge, with(five, x -> x.move(0, i, 0, j, n)), 0, numbers);
    }

    private static void promise30goes() {
        moves("the first on the last", 0, 4, 1, 1, 2, 3, 4, 1);
        moves("the last on the first", 4, 0, 1, 5, 2, 3, 4, 5);
        moves("as they all were, up", 0, 1, 4, 1, 1, 2, 3, 4);
        moves("as they all were, down", 1, 0, 4, 2, 3, 4, 5, 5);
        moves("as they all were, up by 2", 0, 2, 3, 1, 2, 1, 2, 3);
        moves("all on themselves", 0, 0, 5, 1, 2, 3, 4, 5);
        moves("none", 2, 3, 0, 1, 2, 3, 4, 5);
        moves("none from just behind the last", 5, 5, 0, 1, 2, 3, 4, 5);
        Consumer<StairCourt> two = wide(32, 1, 2, 3).andThen(x -> Due.sheet(x, 3, 32, 4, 5));
        gives("30 move: all to another", two, x -> x.move(3, 0, 0, 1, 2), 2);
        holds("30 move: all to another", with(two, x -> x.move(3, 0, 0, 1, 2)), 0, 1, 4, 5);
        holds("30 move: all to another, they stay there", with(two, x -> x.move(3, 0, 0, 1, 2)), 3, 4, 5);
        holds("30 move: to another", with(two, x -> x.move(0, 2, 3, 1, 1)), 3, 4, 3);
        gives("30 move: none of none", Edge::some, x -> x.move(2, 0, 2, 0, 0), 0);
        gives("30 move: 24 of 24", Edge::full, x -> x.move(3, 0, 3, 0, 24), 24);
        gives("30 move: one of 32 bits, unlike to others", with(with(two, x -> x.put(3, 0, MIN + 7)),
                x -> x.move(3, 0, 0, 0, 1)), x -> x.carries(0), 0);
    }

    private static void promise31() {
        beyond("31 carries: sheet", Edge::some, (x, v) -> x.carries(v), -1, 4);
        refused("31 carries: the SHEET is missing", Edge::some, x -> x.carries(3), NONE);
        refused("31 carries: all SHEETS are missing at first,", Edge::nothing, (x, v) -> x.carries(v), NONE, 0, 3);
        looks("31 carries: no numbers", Edge::some, x -> x.carries(2), 0);
        looks("31 carries: the first is no STEP, no ERROR", wide(8, 21, 1), x -> x.carries(0), 0);
        looks("31 carries: nobody, no ERROR", with(Edge::nothing, x -> x.sheet(0, 8, 1)), x -> x.carries(0), 0);
    }

    private static void carries(String edge, Consumer<StairCourt> state, int many, int... at) {
        gives("31 carries: " + edge, state, x -> x.carries(0), many);
        for (int i = 0; i < at.length; i++) {
            int person = i;
            looks("31 carries: " + edge + ", AT of " + i, with(state, x -> x.carries(0)), x -> x.personIs(person, 0), at[i]);
        }
    }

    private static Consumer<StairCourt> at9(Consumer<StairCourt> state) {
        return state.andThen(x -> {
            for (int i = 0; i < 5; i++) {
                x.carry(i, 9);
            }
        });
    }

    private static void promise31goes() {
        carries("to the foot", at9(wide(8, 0)), 1, 0, 9, 9, 9, 9);
        carries("to the last STEP", at9(wide(8, 19)), 1, 19, 9, 9, 9, 9);
        carries("UP", at9(wide(8, 20)), 1, 20, 9, 9, 9, 9);
        carries("above UP", at9(wide(8, 21)), 0, 9, 9, 9, 9, 9);
        carries("-1", at9(wide(32, -1)), 0, 9, 9, 9, 9, 9);
        carries("MIN", at9(wide(32, MIN)), 0, 9, 9, 9, 9, 9);
        carries("MAX", at9(wide(32, MAX)), 0, 9, 9, 9, 9, 9);
        carries("all five", at9(wide(16, 1, 2, 3, 4, 5)), 5, 1, 2, 3, 4, 5);
        carries("nobody for the sixth", at9(wide(16, 1, 2, 3, 4, 5, 6)), 5, 1, 2, 3, 4, 5);
        carries("up to the last but one", at9(wide(8, 1, 2, 3, 4, 21)), 4, 1, 2, 3, 4, 9);
        carries("none behind the first above", at9(wide(8, 1, 21, 3, 4, 5)), 1, 1, 9, 9, 9, 9);
        carries("no numbers", at9(wide(8)), 0, 9, 9, 9, 9, 9);
        carries("no STEPS, to the only number", with(Edge::oneAlone, x -> x.sheet(0, 8, 1)), 1, 0);
        carries("no STEPS, above", with(Edge::oneAlone, x -> x.sheet(0, 8, 1)).andThen(x -> x.put(0, 0, 1)), 0, 0);
    }

    private static void promise32() {
        beyond("32 judge: sheet", Edge::some, (x, v) -> x.judge(v), -1, 4);
        refused("32 judge: the SHEET is missing", Edge::some, x -> x.judge(3), NONE);
        refused("32 judge: all SHEETS are missing at first,", Edge::nothing, (x, v) -> x.judge(v), NONE, 0, 3);
        looks("32 judge: no numbers", Edge::some, x -> x.judge(2), 0);
        looks("32 judge: nobody, no ERROR", with(Edge::nothing, x -> x.sheet(0, 8, 1)), x -> x.judge(0), 0);
    }

    private static void judged(String edge, int right, int... numbers) {
        looks("32 judge: " + edge, at9(wide(32, numbers)), x -> x.judge(0), right);
    }

    private static void promise32goes() {
        judged("the first is right", 1, 9);
        judged("the first isn't right", 0, 8, 9, 9);
        judged("one above", 0, 10);
        judged("-1", 0, -1);
        judged("MIN", 0, MIN);
        judged("MAX", 0, MAX);
        judged("from the first on, up to the last but one", 4, 9, 9, 9, 9, 8);
        judged("none behind the first that isn't", 1, 9, 0, 9, 9, 9);
        judged("all five", 5, 9, 9, 9, 9, 9);
        judged("nobody for the sixth", 5, 9, 9, 9, 9, 9, 9);
        judged("nobody for the sixth, 0", 5, 9, 9, 9, 9, 9, 0);
        judged("fewer numbers than PEOPLE", 2, 9, 9);
        judged("no numbers", 0);
        looks("32 judge: UP", with(wide(8, 20), x -> x.carry(0, 20)), x -> x.judge(0), 1);
        looks("32 judge: AT the foot", wide(8, 0), x -> x.judge(0), 1);
        looks("32 judge: 256 of 8 bits is 0", wide(8, 256), x -> x.judge(0), 1);
        looks("32 judge: 256 of 16 bits is not", wide(16, 256), x -> x.judge(0), 0);
    }
}
