/** Promises 13 to 16: THE TAPE and TEXTS. */
public final class TextsTest extends Promise {
    public static void main(String[] args) {
        promise13();
        promise14();
        promise14faults();
        promise14open();
        promise14replaces();
        promise15();
        promise16signs();
        promise16held();
        promise16long();
        Due.end("TextsTest");
    }

    private static void promise13() {
        StairCourt x = new StairCourt();
        due("n 0", x.feed(0, 0), BEYOND);
        due("n 9", x.feed(0, 9), BEYOND);
        due("n MIN", x.feed(0, MIN), BEYOND);
        due("n MAX", x.feed(0, MAX), BEYOND);
        due("nothing came", x.count(3), 0);
        // "1+2*w" and more bytes above, which do not come.
        due("lowest first", x.feed(0x4141_772A_322B_31L, 5), 5);
        due("text", x.text(0), 1);
        due("law", x.law(0, -1, 0, 0), 0);
        due("eight", x.feed(0x3131_2B31_3131_2B31L, 8), 8);
        due("is a text of eight bytes", x.text(1), 1);
        due("1+11" + "1+11", x.law(1, 0, 0, 0), 99);
        due("highest byte comes", x.feed(0x62L << 56 | 0x2B_312B_312B_312BL >>> 8 | 0x31L, 8), 8);
        x.text(1);
        for (int i = 8; i <= 56; i += 8) {
            due("feed to " + i, x.feed(-1L, 8), i);
        }
        due("61 bytes", x.feed(0, 5), FULL);
        due("BEYOND ahead of FULL", x.feed(0, 9), BEYOND);
        due("60 bytes", x.feed(0, 4), 60);
        due("one more", x.feed(0, 1), FULL);
        due("count", x.count(3), 60);
        Due.toldAre(x, 5, 0, 0, 2, 0, 0);
    }

    private static void promise14() {
        StairCourt x = new StairCourt();
        Due.feed(x, "1");
        due("use -1", x.text(-1), BEYOND);
        due("use 2", x.text(2), BEYOND);
        due("THE TAPE stays", x.count(3), 1);
        due("text", x.text(0), 1);
        due("THE TAPE is empty", x.count(3), 0);
        due("nothing", x.text(0), -10);
        Due.toldAre(x, 2, 0, 0, 0, 0, 0);
    }

    private static void promise14faults() {
        fault(0, "", 0);
        fault(0, "b", 0);
        fault(0, "k", 0);
        fault(1, "w", 0);
        fault(1, "m", 0);
        fault(0, "w ", 1);
        fault(0, " w", 0);
        fault(0, "W", 0);
        fault(0, "\u00ff", 0);
        fault(0, "\u0000", 0);
        fault(0, "12345", 4);
        fault(0, "1+00000", 6);
        fault(0, "1w", 1);
        fault(0, "w1", 1);
        fault(0, "-1", 0);
        fault(0, "1--1", 2);
        fault(0, "1-", 2);
        fault(0, "1!", 1);
        fault(0, "1<2<3", 3);
        fault(0, "1=2>3", 3);
        fault(0, "(1>2=3)", 4);
        fault(0, "1<2|3<4&5=6=7", 11);
        fault(0, "(1", 2);
        fault(0, "(1))", 3);
        fault(0, "1)", 1);
        fault(0, "()", 1);
        fault(0, "(", 1);
        fault(0, "!", 1);
        fault(0, "!)", 1);
        fault(0, "1||2", 2);
        fault(0, "1==2", 2);
        fault(0, "1^2", 1);
        fault(1, "b+s+w", 4);
        right(0, "w");
        right(0, "s");
        right(0, "m");
        right(1, "b");
        right(1, "s");
        right(1, "k");
        right(0, "1234");
        right(0, "0001");
        right(0, "1<2|3<4&5=6");
        right(0, "(1<2)<3");
        right(0, "1<(2<3)");
        right(0, "((1))*!w");
        fault(0, "1+1+1+1+1+1+1+1+1+1+1+1+1+1+1+1+1+1+1+1+1+1+1+1+1+1+1+1+1+1+", 60);
        right(0, "1+1+1+1+1+1+1+1+1+1+1+1+1+1+1+1+1+1+1+1+1+1+1+1+1+1+1+1+1+11");
    }

    private static void promise14open() {
        right(0, "!!!!!1");
        fault(0, "!!!!!!1", 5);
        right(0, "(((((1)))))");
        fault(0, "((((((1))))))", 5);
        right(0, "!(!(!1))");
        fault(0, "!(!(!(1)))", 5);
        fault(0, "(!(!(!", 5);
        right(0, "!!!!!1+!!!!!w");
        right(0, "(((((1)+!1))))");
        fault(0, "(((((1)+!!1))))", 9);
        fault(0, "(((((1+!", 7);
        fault(0, "(((((", 5);
        fault(0, "!!!!!", 5);
        fault(0, "!!!!!)", 5);
    }

    private static void right(int use, String text) {
        StairCourt x = new StairCourt();
        due("text " + text, Due.text(x, use, text), 1);
        due("is there: " + text, x.untell(use), 1);
    }

    private static void fault(int use, String text, int place) {
        StairCourt x = new StairCourt();
        due("fault of " + text, Due.text(x, use, text), -10 - place);
        due("is not there: " + text, x.untell(use), 0);
        due("THE TAPE is empty by " + text, x.count(3), 0);
        Due.toldAre(x, 0, 0, 0, 0, 0, 0);
    }

    private static void promise14replaces() {
        StairCourt x = new StairCourt();
        Due.text(x, 1, "b+1");
        due("first", x.law(1, 5, 0, 0), 6);
        due("fault", Due.text(x, 1, "b+2+"), -14);
        due("first stays", x.law(1, 5, 0, 0), 6);
        due("second", Due.text(x, 1, "b+2"), 1);
        due("second is it", x.law(1, 5, 0, 0), 7);
        due("the other use has none", x.law(0, 5, 0, 0), 1);
        due("shorter", Due.text(x, 1, "3"), 1);
        due("shorter is it", x.law(1, 5, 0, 0), 3);
    }

    private static void promise15() {
        StairCourt x = new StairCourt();
        due("none", x.untell(0), 0);
        Due.text(x, 0, "0");
        Due.text(x, 1, "5");
        Due.feed(x, "77");
        due("one", x.untell(0), 1);
        due("none more", x.untell(0), 0);
        due("law without", x.law(0, 0, 0, 0), 1);
        due("the other stays", x.law(1, 0, 0, 0), 5);
        due("one of the other", x.untell(1), 1);
        due("THE TAPE stays", x.count(3), 2);
        due("use -1", x.untell(-1), BEYOND);
        due("use 2", x.untell(2), BEYOND);
        due("told", x.told(1), 2);
    }

    private static void promise16signs() {
        gives("b+s*2", 3, 4, 0, 11);
        gives("(b+s)*2", 3, 4, 0, 14);
        gives("b-s-k", 50, 4, 3, 43);
        gives("b-(s-k)", 50, 4, 3, 49);
        gives("b/s/k", 99, 4, 3, 8);
        gives("b%s", 99, 4, 3, 3);
        gives("b/s*k", 99, 4, 3, 72);
        gives("b/s", 99, 0, 0, 0);
        gives("b%s", 99, 0, 0, 0);
        gives("1+b/s", -7, 2, 0, 0);
        gives("10+b/s", -7, 2, 0, 7);
        gives("10+b%s", -7, 2, 0, 9);
        gives("10+b%s", -7, -2, 0, 9);
        gives("b/s=b", MIN, -1, 0, 1);
        gives("b%s", MIN, -1, 0, 0);
        gives("b+1<b", MAX, 0, 0, 1);
        gives("b*b+5", 65536, 0, 0, 5);
        gives("b<s", 1, 2, 0, 1);
        gives("b<s", 2, 2, 0, 0);
        gives("b>s", 3, 2, 0, 1);
        gives("b>s", 2, 2, 0, 0);
        gives("b=s", 2, 2, 0, 1);
        gives("b=s", 2, 3, 0, 0);
        gives("b<s", MIN, MAX, 0, 1);
        gives("5|b", 0, 0, 0, 1);
        gives("b|s", 0, 0, 0, 0);
        gives("b|s", 0, -9, 0, 1);
        gives("b&s", 5, -9, 0, 1);
        gives("b&s", 5, 0, 0, 0);
        gives("b&s|k", 0, 0, 3, 1);
        gives("k|b&s", 0, 0, 3, 1);
        gives("(k|b)&s", 0, 0, 3, 0);
        gives("b+1=s&k", 1, 2, 3, 1);
        gives("!b", 0, 0, 0, 1);
        gives("!b", -3, 0, 0, 0);
        gives("!!b", -3, 0, 0, 1);
        gives("!b+5", 7, 0, 0, 5);
        gives("!(b+5)", 7, 0, 0, 0);
        gives("!b*7+!s*3", 0, 0, 0, 10);
        gives("0042", 0, 0, 0, 42);
        gives("9999-9901", 0, 0, 0, 98);
        gives("(1<2)+(3>2)+(4=4)+(1|0)+(1&1)", 0, 0, 0, 5);
    }

    private static void gives(String text, int a, int b, int c, int want) {
        StairCourt x = new StairCourt();
        Due.text(x, 1, text);
        due(text + " by " + a + ", " + b + ", " + c, x.law(1, a, b, c), want);
    }

    private static void promise16held() {
        StairCourt x = new StairCourt();
        due("without a TEXT 1", x.law(1, 99, 0, 0), 99);
        due("without a TEXT 2", x.law(1, 100, 0, 0), 99);
        due("without a TEXT 3", x.law(1, -1, 0, 0), 0);
        due("without a TEXT 4", x.law(0, -1, 0, 0), 1);
        Due.text(x, 0, "w*100+s*10+m");
        due("HEEDS 1", x.law(0, 0, 0, 1), 1);
        due("HEEDS 2", x.law(0, 0, 1, -8), 1);
        due("HEEDS 3", x.law(0, 1, 0, 0), 1);
        due("HEEDS 0", x.law(0, 0, 0, 0), 0);
        due("HEEDS below", x.law(0, 0, 0, -5), 0);
        Due.text(x, 1, "b*100+s*10+k");
        due("names in order", x.law(1, 0, 4, 3), 43);
        due("names in order b", x.law(1, 1, -4, 3), 63);
        due("above", x.law(1, 1, 0, 0), 99);
        due("below", x.law(1, 0, 0, -1), 0);
        due("use -1", x.law(-1, 0, 0, 0), BEYOND);
        due("use 2", x.law(2, 0, 0, 0), BEYOND);
        Due.toldAre(x, 2, 0, 0, 0, 0, 0);
    }

    /** TEXTS of sixty bytes, with as many numbers open as can be. */
    private static void promise16long() {
        gives("1+1+1+1+1+1+1+1+1+1+1+1+1+1+1+1+1+1+1+1+1+1+1+1+1+1+1+1+1+11", 0, 0, 0, 40);
        gives("0|1&1=1+1*(0|1&1=1+1*(0|1&1=1+1*(0|1&1=1+1*(0|1&1=1+0*(7))))", 0, 0, 0, 0);
        gives("0|1&2=1+1*(0|1&2=1+1*(0|1&2=1+1*(0|1&2=1+1*(0|1&1=1+0*7))))", 0, 0, 0, 1);
        gives("b-b-b-b-b-b-b-b-b-b-b-b-b-b-b-b-b-b-b-b-b-b-b-b-b-b-b-b-b-b", -2, 0, 0, 56);
    }
}
