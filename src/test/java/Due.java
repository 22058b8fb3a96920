/** Compares answers with those that are due, and tells of each that is another. */
final class Due {
    static final int LOW = -1000000000;
    static final int BEYOND = LOW - 1;
    static final int NONE = LOW - 2;
    static final int STATE = LOW - 3;
    static final int FULL = LOW - 4;
    static final int KIND = LOW - 5;
    static final int PARTED = LOW - 6;
    static final int MIN = Integer.MIN_VALUE;
    static final int MAX = Integer.MAX_VALUE;

    private static int asked = 0;
    private static int wrong = 0;

    private Due() {
    }

    static void due(String call, long got, long want) {
        asked++;
        if (got != want) {
            wrong++;
            System.out.println(call + " answered " + got + ", due is " + want);
        }
    }

    /** Told by each kind of ERROR, k 1 to 6. */
    static void toldAre(StairCourt x, int... want) {
        for (int k = 1; k <= 6; k++) {
            due("told(" + k + ")", x.told(k), want[k - 1]);
        }
    }

    static void feed(StairCourt x, String text) {
        for (int i = 0; i < text.length(); i++) {
            x.feed(text.charAt(i), 1);
        }
    }

    /** Feeds a text and makes it that of a USE. */
    static int text(StairCourt x, int use, String text) {
        feed(x, text);
        return x.text(use);
    }

    static StairCourt court(int... kms) {
        StairCourt x = new StairCourt();
        for (int km : kms) {
            x.step(km);
        }
        return x;
    }

    static void sheet(StairCourt x, int sheet, int bits, int... numbers) {
        x.sheet(sheet, bits, numbers.length);
        for (int i = 0; i < numbers.length; i++) {
            x.put(sheet, i, numbers[i]);
        }
    }

    static void end(String test) {
        System.out.println(test + ": " + asked + " answers, " + wrong + " wrong");
        if (wrong != 0 || asked == 0) {
            System.exit(1);
        }
    }
}
