import java.util.function.Consumer;

/** Boundary cases of promises 13 to 16 and of terms 2, each a test of its own. */
public final class EdgeTextsTest extends Edge {
    /** Sixty bytes that are a TEXT: 29 times 1, and 11. */
    private static final String SIXTY = "1+1+1+1+1+1+1+1+1+1+1+1+1+1+1+1+1+1+1+1+1+1+1+1+1+1+1+1+1+11";

    public static void main(String[] args) {
        promise13();
        promise13full();
        promise14();
        promise14faults();
        promise14numbers();
        promise14open();
        promise14sixty();
        promise14replaces();
        promise15();
        promise16();
        promise16held();
        promise16wraps();
        promise16signs();
        Due.end("EdgeTextsTest");
    }

    private static Consumer<StairCourt> fed(int bytes) {
        return x -> {
            for (int i = 0; i < bytes; i++) {
                x.feed('1', 1);
            }
        };
    }

    private static void promise13() {
        beyond("13 feed: n", Edge::nothing, (x, n) -> x.feed('1', n), 0, 9);
        refused("13 feed: n", Edge::some, (x, n) -> x.feed(-1L, n), BEYOND, -1, 0, 9);
        beyond("13 feed: n, ahead of FULL", fed(60), (x, n) -> x.feed('1', n), 0, 9);
        gives("13 feed: the fewest bytes", Edge::nothing, x -> x.feed('1', 1), 1);
        gives("13 feed: the most bytes", Edge::nothing, x -> x.feed(0x3131_3131_3131_3131L, 8), 8);
        // The byte above the n that come would be a FAULT.
        gives("13 feed: one byte, none above it", with(Edge::nothing, x -> x.feed(-1L << 8 | '1', 1)), x -> x.text(0), 1);
        gives("13 feed: seven bytes, none above them",
                with(Edge::nothing, x -> x.feed(0xFF2B_312B_312B_31L << 8 | '1', 7)), x -> x.text(0), -17);
        gives("13 feed: the lowest byte first", with(Edge::nothing, x -> x.feed('1' | '+' << 8, 2)), x -> x.text(0), -12);
        gives("13 feed: the highest byte last", with(Edge::nothing, x -> x.feed(0xFF_312B_312B_312BL << 8 | '1', 8)),
                x -> x.text(0), -17);
        gives("13 feed: the least word", with(Edge::nothing, x -> x.feed(Long.MIN_VALUE, 8)), x -> x.text(0), -10);
        gives("13 feed: behind what is there", with(fed(1), x -> x.feed('+', 1)), x -> x.text(0), -12);
    }

    private static void promise13full() {
        refused("13 feed: at most 60 bytes, n", fed(60), (x, n) -> x.feed('1', n), FULL, 1, 8);
        refused("13 feed: at most 60 bytes, one too many by n", fed(59), (x, n) -> x.feed('1', n), FULL, 2, 8);
        refused("13 feed: at most 60 bytes, 53 and n", fed(53), (x, n) -> x.feed('1', n), FULL, 8);
        gives("13 feed: 59 and 1", fed(59), x -> x.feed('1', 1), 60);
        gives("13 feed: 52 and 8", fed(52), x -> x.feed('1', 8), 60);
        gives("13 feed: 53 and 7", fed(53), x -> x.feed('1', 7), 60);
        gives("13 feed: once more behind text()", with(fed(60), x -> x.text(0)), x -> x.feed('1', 8), 8);
        gives("13 feed: once more behind a refused one", with(fed(59), x -> x.feed('1', 2)), x -> x.feed('1', 1), 60);
    }

    private static void promise14() {
        beyond("14 text: use", Edge::some, (x, use) -> x.text(use), -1, 2);
        beyond("14 text: use, by nothing", Edge::nothing, (x, use) -> x.text(use), -1, 2);
        beyond("14 text: use, THE TAPE stays", Edge::full, (x, use) -> x.text(use), -1, 2);
        gives("14 text: of the first USE", fed(1), x -> x.text(0), 1);
        gives("14 text: of the last USE", fed(1), x -> x.text(1), 1);
        looks("14 text: THE TAPE is empty then", with(fed(1), x -> x.text(0)), x -> x.count(3), 0);
        looks("14 text: THE TAPE is empty by a FAULT, too", with(fed(5), x -> x.text(0)), x -> x.count(3), 0);
        gives("14 text: nothing is on THE TAPE then", with(fed(1), x -> x.text(0)), x -> x.text(0), -10);
    }

    private static void faults(String edge, int use, String text, int place) {
        Consumer<StairCourt> tape = x -> {
            Due.text(x, 0, "s=1");
            Due.text(x, 1, "b+s");
            Due.feed(x, text);
        };
        String name = "14 FAULT: " + edge + ", " + text;
        gives(name, tape, x -> x.text(use), -10 - place);
        looks(name + ": THE TAPE", with(tape, x -> x.text(use)), x -> x.count(3), 0);
        // All else is as it was, the TEXTS ahead too.
        looks(name + ": HEEDS", with(tape, x -> x.text(use)), x -> x.law(0, 0, 1, 0), 1);
        looks(name + ": HEEDS by another", with(tape, x -> x.text(use)), x -> x.law(0, 0, 2, 0), 0);
        looks(name + ": BRIBE", with(tape, x -> x.text(use)), x -> x.law(1, 3, 4, 0), 7);
    }

    private static void right(String edge, int use, String text, int a, int want) {
        Consumer<StairCourt> tape = x -> Due.feed(x, text);
        gives("14 " + edge + ": " + text, tape, x -> x.text(use), 1);
        gives("14 " + edge + ": " + text + " is there", with(tape, x -> x.text(use)), x -> x.law(use, a, 2, 3), want);
    }

    private static void promise14faults() {
        faults("too early, nothing", 0, "", 0);
        faults("too early, nothing", 1, "", 0);
        for (String sign : new String[] {"|", "&", "<", "=", ">", "+", "-", "*", "/", "%"}) {
            faults("too early behind a sign", 0, "w" + sign, 2);
            faults("no sign is the first", 0, sign + "w", 0);
            faults("no sign behind a sign", 0, "w" + sign + sign, 2);
        }
        faults("too early behind !", 0, "!", 1);
        faults("too early behind (", 0, "(", 1);
        faults("too early ahead of )", 0, "(w", 2);
        faults("nothing within ( )", 0, "()", 1);
        faults("nothing behind ! within ( )", 0, "(!)", 2);
        faults("no ) to close", 0, ")", 0);
        faults("one ) too many", 0, "(w))", 3);
        faults("one byte too many", 0, "ww", 1);
        faults("a blank ahead", 0, " w", 0);
        faults("a blank behind", 0, "w ", 1);
        faults("a blank between", 0, "w +1", 1);
        faults("! behind a name", 0, "w!1", 1);
        faults("( behind a name", 0, "w(1)", 1);
        faults("a name behind )", 0, "(1)w", 3);
        faults("a second < ", 0, "1<2<3", 3);
        faults("a second = ", 0, "1=2=3", 3);
        faults("a second > ", 0, "1>2>3", 3);
        faults("< behind =", 0, "1=2<3", 3);
        faults("< behind = in ( )", 0, "(1=2<3)", 4);
        faults("< behind = in a sum", 0, "1=2+1<3", 5);
        right("one < a side of &", 1, "1<2&2<3|3<4", 0, 1);
        right("one < in ( ) a side of <", 1, "(1<2)<(2<3)", 0, 0);
        for (String name : new String[] {"b", "k", "W", "v", "x", "t", "n", "r", "l"}) {
            faults("no NAME of HEEDS", 0, name, 0);
        }
        for (String name : new String[] {"w", "m", "B", "a", "c", "r", "t", "j", "l"}) {
            faults("no NAME of BRIBE", 1, name, 0);
        }
        right("the first NAME of HEEDS", 0, "w", 1, 1);
        right("the second NAME of HEEDS", 0, "s=2", 0, 1);
        right("the last NAME of HEEDS", 0, "m=3", 0, 1);
        right("the first NAME of BRIBE", 1, "b", 9, 9);
        right("the second NAME of BRIBE", 1, "s", 9, 2);
        right("the last NAME of BRIBE", 1, "k", 9, 3);
        for (int sign : new int[] {0, 1, 31, 32, 47, 58, 59, 63, 64, 91, 96, 127, 128, 160, 176, 247, 255}) {
            faults("no byte of a TEXT, " + sign, 0, String.valueOf((char) sign), 0);
        }
    }

    /** NUMBERS of 1 to 4 digits. */
    private static void promise14numbers() {
        right("the least NUMBER", 1, "0", 0, 0);
        right("one digit", 1, "9", 0, 9);
        right("four digits, the largest NUMBER", 1, "9999-9900", 0, 99);
        right("four digits, all 0", 1, "0000", 0, 0);
        right("four digits, first 0", 1, "0012", 0, 12);
        faults("a fifth digit", 0, "10000", 4);
        faults("a fifth digit of 0", 0, "00000", 4);
        faults("a fifth digit behind a sign", 0, "w+12345", 6);
        faults("a fifth digit in ( )", 0, "(12345)", 5);
        faults("a fifth digit behind !", 0, "!12345", 5);
        faults("a digit behind a NAME", 0, "w1", 1);
        faults("a NAME behind a digit", 0, "1w", 1);
        faults("no digits behind a sign", 0, "1+", 2);
        faults("no sign makes a NUMBER negative", 0, "-1", 0);
        faults("the byte ahead of 0", 0, "/", 0);
        faults("the byte behind 9", 0, ":", 0);
        faults("the byte behind 9, behind a digit", 0, "9:", 1);
    }

    /** At most 5 of ! and ( are open at once. */
    private static void promise14open() {
        right("five ! open", 1, "!!!!!b", 7, 0);
        right("five ( open", 1, "(((((b)))))", 7, 7);
        right("five of both open", 1, "!(!(!b))", 7, 0);
        right("five open, then closed and five more", 1, "!!!!!0+(((((b)))))", 7, 8);
        right("five open on the right side", 1, "1+(((((b)))))", 7, 8);
        right("four open and two, one closed ahead of the other", 1, "((((!0+!b))))", 7, 1);
        faults("a sixth !", 1, "!!!!!!b", 5);
        faults("a sixth (", 1, "((((((b))))))", 5);
        faults("a sixth ( behind !", 1, "!!!!!(b)", 5);
        faults("a sixth ! behind (", 1, "(((((!b)))))", 5);
        faults("a sixth on the right side", 1, "(((((b+!b)))))", 7);
        faults("a sixth ! on the right side of four", 1, "((((!0+!!b))))", 8);
        faults("a sixth ( behind closed ones", 1, "(!!!!0+(((((b)))))", 11);
        faults("too early with five open", 1, "!!!!!", 5);
        faults("too early with five open (", 1, "(((((", 5);
        faults("too early with five open to close", 1, "(((((b))))", 10);
    }

    private static void promise14sixty() {
        right("sixty bytes", 1, SIXTY, 0, 40);
        faults("too early behind sixty bytes", 0, SIXTY.substring(0, 58) + "1+", 60);
        faults("the sixtieth byte", 0, SIXTY.substring(0, 59) + "w", 59);
        faults("the sixtieth byte is )", 0, SIXTY.substring(0, 59) + ")", 59);
        faults("the first of sixty bytes", 0, "+" + SIXTY.substring(0, 59), 0);
        faults("a ) that sixty bytes leave no room for", 0, "(" + SIXTY.substring(0, 59), 60);
        right("fifty-nine bytes", 1, SIXTY.substring(0, 59), 0, 30);
        right("sixty bytes, five open to the last", 1, "(((((" + SIXTY.substring(0, 48) + "11)))))", 0, 35);
        faults("the last but four of sixty bytes", 0, "(((((" + SIXTY.substring(0, 49) + "+)))))", 55);
    }

    private static void promise14replaces() {
        Consumer<StairCourt> one = x -> Due.text(x, 1, "b+s*10+k-1");
        looks("14 text: in place of one ahead, shorter", with(one, x -> Due.text(x, 1, "7")), x -> x.law(1, 1, 1, 1), 7);
        looks("14 text: in place of one ahead, longer", with(one, x -> Due.text(x, 1, SIXTY)), x -> x.law(1, 1, 1, 1), 40);
        looks("14 text: the one ahead stays by a FAULT", with(one, x -> Due.text(x, 1, "b+s*10+k-1+")),
                x -> x.law(1, 1, 1, 1), 11);
        looks("14 text: the one ahead stays by nothing", with(one, x -> x.text(1)), x -> x.law(1, 1, 1, 1), 11);
        looks("14 text: none is there by a FAULT, if none was", with(Edge::nothing, x -> Due.text(x, 0, "0+")),
                x -> x.law(0, 0, 0, 0), 1);
        looks("14 text: the other USE stays", with(one, x -> Due.text(x, 0, "0")), x -> x.law(1, 1, 1, 1), 11);
    }

    private static void promise15() {
        beyond("15 untell: use", Edge::some, (x, use) -> x.untell(use), -1, 2);
        beyond("15 untell: use of none", Edge::nothing, (x, use) -> x.untell(use), -1, 2);
        looks("15 untell: none of the first USE", Edge::nothing, x -> x.untell(0), 0);
        looks("15 untell: none of the last USE", Edge::nothing, x -> x.untell(1), 0);
        gives("15 untell: one of the first USE", Edge::some, x -> x.untell(0), 1);
        gives("15 untell: one of the last USE", Edge::some, x -> x.untell(1), 1);
        looks("15 untell: none any more of the first USE", with(Edge::some, x -> x.untell(0)), x -> x.untell(0), 0);
        looks("15 untell: none any more of the last USE", with(Edge::some, x -> x.untell(1)), x -> x.untell(1), 0);
        looks("15 untell: HEEDS is 1 then", with(Edge::some, x -> x.untell(0)), x -> x.law(0, 0, 0, 0), 1);
        looks("15 untell: BRIBE is b then", with(Edge::some, x -> x.untell(1)), x -> x.law(1, 5, 3, 0), 5);
        looks("15 untell: the other USE stays", with(Edge::some, x -> x.untell(0)), x -> x.law(1, 5, 3, 0), 8);
        looks("15 untell: THE TAPE stays", with(Edge::some, x -> x.untell(0)), x -> x.count(3), 3);
        looks("15 untell: none by a FAULT", with(Edge::nothing, x -> Due.text(x, 0, "w+")), x -> x.untell(0), 0);
        gives("15 untell: one, of one byte", with(Edge::nothing, x -> Due.text(x, 0, "0")), x -> x.untell(0), 1);
    }

    private static void promise16() {
        beyond("16 law: use", Edge::some, (x, use) -> x.law(use, 1, 2, 3), -1, 2);
        beyond("16 law: use of none", Edge::nothing, (x, use) -> x.law(use, MIN, MAX, 0), -1, 2);
        looks("16 law: the first USE", Edge::some, x -> x.law(0, 1, 0, 0), 0);
        looks("16 law: the last USE", Edge::some, x -> x.law(1, 90, 9, 0), 99);
        looks("16 law: any numbers, the least", Edge::some, x -> x.law(1, MIN, MIN, MIN), 0);
        looks("16 law: any numbers, the largest", Edge::some, x -> x.law(0, MAX, MAX, MAX), 1);
    }

    /** HEEDS within 0 .. 1, BRIBE within 0 .. 99, with and without a TEXT. */
    private static void promise16held() {
        int[] values = {MIN, -1, 0, 1, 2, 98, 99, 100, MAX};
        int[] heeds = {0, 0, 0, 1, 1, 1, 1, 1, 1};
        int[] bribes = {0, 0, 0, 1, 2, 98, 99, 99, 99};
        for (int i = 0; i < values.length; i++) {
            int v = values[i];
            looks("16 HEEDS held: " + v, with(Edge::nothing, x -> Due.text(x, 0, "w")), x -> x.law(0, v, 0, 0), heeds[i]);
            looks("16 BRIBE held: " + v, with(Edge::nothing, x -> Due.text(x, 1, "b")), x -> x.law(1, v, 0, 0), bribes[i]);
            looks("16 HEEDS without a TEXT: " + v, Edge::nothing, x -> x.law(0, v, v, v), 1);
            looks("16 BRIBE without a TEXT, held: " + v, Edge::nothing, x -> x.law(1, v, 7, 7), bribes[i]);
        }
    }

    private static void works(String edge, String text, int a, int b, int c, int want) {
        looks("16 " + edge + ": " + text + " by " + a + ", " + b + ", " + c,
                with(Edge::nothing, x -> Due.text(x, 1, text)), x -> x.law(1, a, b, c), want);
    }

    private static void promise16wraps() {
        works("wraps", "b+1=k", MAX, 0, MIN, 1);
        works("wraps", "b-1=k", MIN, 0, MAX, 1);
        works("wraps", "b+s", MAX, MIN + 8, 0, 7);
        works("wraps", "b-s", MIN, MAX, 0, 1);
        works("wraps", "b*s=k", MAX, 2, -2, 1);
        works("wraps", "b*s=k", MIN, -1, MIN, 1);
        works("wraps", "b*b", 65536, 0, 0, 0);
        works("wraps", "0-b=b", MIN, 0, 0, 1);
        works("wraps", "b/s=k", MIN, -1, MIN, 1);
        works("wraps", "b%s", MIN, -1, 0, 0);
        works("wraps", "9999*9999*9999=k", 0, 0, 9999 * 9999 * 9999, 1);
    }

    private static void promise16signs() {
        works("/ by 0", "5+b/s", 7, 0, 0, 5);
        works("/ by 0 of MIN", "5+b/s", MIN, 0, 0, 5);
        works("/ by 0 of 0", "5+b/s", 0, 0, 0, 5);
        works("% by 0", "5+b%s", 7, 0, 0, 5);
        works("% by 0 of MIN", "5+b%s", MIN, 0, 0, 5);
        works("% by 0 of 0", "5+b%s", 0, 0, 0, 5);
        works("/ cut", "b/s", 7, 4, 0, 1);
        works("/ cut toward 0", "5+b/s", -7, 4, 0, 4);
        works("/ cut toward 0, by less than 0", "5+b/s", 7, -4, 0, 4);
        works("/ cut toward 0, of both less", "b/s", -7, -4, 0, 1);
        works("/ of less than one", "5+b/s", -3, 4, 0, 5);
        works("% leaves", "b%s", 7, 4, 0, 3);
        works("% leaves of less than 0", "5+b%s", -7, 4, 0, 2);
        works("% leaves by less than 0", "b%s", 7, -4, 0, 3);
        works("% leaves of both less", "5+b%s", -7, -4, 0, 2);
        works("% leaves none", "b%s", 8, 4, 0, 0);
        int[][] pairs = {{0, 0}, {0, 1}, {1, 0}, {-1, 0}, {0, -1}, {2, 3}, {3, 2}, {MIN, MAX}, {MAX, MIN}, {MIN, MIN}};
        for (int[] p : pairs) {
            works("|", "5+(b|s)", p[0], p[1], 0, p[0] != 0 || p[1] != 0 ? 6 : 5);
            works("&", "5+(b&s)", p[0], p[1], 0, p[0] != 0 && p[1] != 0 ? 6 : 5);
            works("<", "5+(b<s)", p[0], p[1], 0, p[0] < p[1] ? 6 : 5);
            works("=", "5+(b=s)", p[0], p[1], 0, p[0] == p[1] ? 6 : 5);
            works(">", "5+(b>s)", p[0], p[1], 0, p[0] > p[1] ? 6 : 5);
        }
        works("! of 0", "5+!b", 0, 0, 0, 6);
        works("! of 1", "5+!b", 1, 0, 0, 5);
        works("! of -1", "5+!b", -1, 0, 0, 5);
        works("! of MIN", "5+!b", MIN, 0, 0, 5);
        works("all is worked out", "1|b/s", 7, 0, 0, 1);
        works("all is worked out", "0&b/s", 7, 0, 0, 0);
    }
}
