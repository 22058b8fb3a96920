/** Promises 28 to 32: SHEETS. What numbers they have is told by carries() and judge(). */
public final class SheetsTest extends Promise {
    public static void main(String[] args) {
        promise28();
        promise28errors();
        promise29();
        promise29bits();
        promise30();
        promise30errors();
        promise31();
        promise32();
        Due.end("SheetsTest");
    }

    /** Twenty STEPS and five of PEOPLE. */
    private static StairCourt wide() {
        StairCourt x = new StairCourt();
        for (int i = 0; i < 20; i++) {
            x.step(0);
        }
        for (int i = 0; i < 5; i++) {
            x.person(9);
        }
        return x;
    }

    /** Carries by a sheet and looks where the first of PEOPLE are. */
    private static void holds(String call, StairCourt x, int sheet, int... numbers) {
        due(call + ": carries", x.carries(sheet), numbers.length);
        for (int i = 0; i < numbers.length; i++) {
            due(call + ": number " + i, x.personIs(i, 0), numbers[i]);
        }
    }

    private static void promise28() {
        StairCourt x = wide();
        due("sheet", x.sheet(0, 8, 3), 1);
        x.carry(1, 5);
        holds("all 0", x, 0, 0, 0, 0);
        x.put(0, 1, 7);
        due("anew", x.sheet(0, 16, 4), 1);
        holds("all 0 again", x, 0, 0, 0, 0, 0);
        due("most", x.sheet(3, 32, 24), 1);
        due("last of most", x.put(3, 23, 1), 1);
        due("none of most", x.put(3, 24, 1), BEYOND);
        due("no numbers", x.sheet(1, 8, 0), 1);
        due("no numbers: judge", x.judge(1), 0);
        due("missing", x.sheet(0, 0, 99), 1);
        due("is missing", x.judge(0), NONE);
        due("missing by less than 0", x.sheet(3, 0, -1), 1);
        due("is missing too", x.judge(3), NONE);
        due("other one stays", x.judge(1), 0);
    }

    private static void promise28errors() {
        StairCourt x = wide();
        Due.sheet(x, 0, 8, 3, 4);
        due("sheet 4", x.sheet(4, 8, 1), BEYOND);
        due("sheet -1", x.sheet(-1, 8, 1), BEYOND);
        due("sheet 4, missing", x.sheet(4, 0, 1), BEYOND);
        due("bits 7", x.sheet(0, 7, 1), BEYOND);
        due("bits -8", x.sheet(0, -8, 1), BEYOND);
        due("bits 64", x.sheet(0, 64, 1), BEYOND);
        due("bits ahead of STATE", x.sheet(0, 9, -1), BEYOND);
        due("sheet ahead of STATE", x.sheet(4, 8, -1), BEYOND);
        due("n -1", x.sheet(0, 8, -1), STATE);
        due("n MIN", x.sheet(0, 8, MIN), STATE);
        due("n 25", x.sheet(0, 8, 25), BEYOND);
        due("n MAX", x.sheet(0, 8, MAX), BEYOND);
        holds("stays", x, 0, 3, 4);
        Due.toldAre(x, 10, 0, 2, 0, 0, 0);
    }

    private static void promise29() {
        StairCourt x = wide();
        x.sheet(2, 8, 3);
        due("put", x.put(2, 0, 20), 1);
        due("put last", x.put(2, 2, 4), 1);
        holds("put", x, 2, 20, 0, 4);
        due("sheet -1", x.put(-1, 0, 0), BEYOND);
        due("sheet 4", x.put(4, 0, 0), BEYOND);
        due("missing, ahead of no number", x.put(0, 99, 0), NONE);
        due("number 3", x.put(2, 3, 0), BEYOND);
        due("number -1", x.put(2, -1, 0), BEYOND);
        due("number MIN", x.put(2, MIN, 0), BEYOND);
        due("number MAX", x.put(2, MAX, 0), BEYOND);
        x.sheet(1, 8, 0);
        due("no number at all", x.put(1, 0, 0), BEYOND);
        Due.toldAre(x, 7, 1, 0, 0, 0, 0);
    }

    private static void promise29bits() {
        StairCourt x = wide();
        Due.sheet(x, 0, 8, 256 + 5, -256 + 6, 65536 + 7, MIN + 8);
        holds("8 bits", x, 0, 5, 6, 7, 8);
        Due.sheet(x, 0, 16, 65536 + 5, -65536 + 6, MIN + 7, 256 + 5);
        holds("16 bits", x, 0, 5, 6, 7);
        Due.sheet(x, 0, 32, 5, 65536 + 5);
        holds("32 bits", x, 0, 5);
        Due.sheet(x, 0, 32, MIN + 5);
        due("32 bits, highest", x.carries(0), 0);
        Due.sheet(x, 0, 8, 255);
        due("8 bits, all set", x.carries(0), 0);
    }

    private static void promise30() {
        StairCourt x = wide();
        Due.sheet(x, 0, 8, 1, 2, 3, 4, 5);
        Due.sheet(x, 1, 8, 11, 12, 13, 14, 15);
        due("to another", x.move(0, 1, 1, 3, 2), 2);
        holds("another", x, 1, 11, 12, 13, 2, 3);
        holds("from", x, 0, 1, 2, 3, 4, 5);
        due("up in the same", x.move(0, 0, 0, 1, 4), 4);
        holds("as they all were", x, 0, 1, 1, 2, 3, 4);
        due("down in the same", x.move(0, 1, 0, 0, 4), 4);
        holds("as they all were, down", x, 0, 1, 2, 3, 4, 4);
        due("all", x.move(1, 0, 0, 0, 5), 5);
        holds("all", x, 0, 11, 12, 13, 2, 3);
        due("none", x.move(0, 5, 1, 5, 0), 0);
        Due.sheet(x, 2, 32, 9);
        Due.sheet(x, 3, 32, 7, 8);
        due("32 bits", x.move(2, 0, 3, 1, 1), 1);
        holds("32 bits", x, 3, 7, 9);
    }

    private static void promise30errors() {
        StairCourt x = wide();
        Due.sheet(x, 0, 8, 1, 2, 3);
        Due.sheet(x, 1, 16, 4, 5, 6);
        Due.sheet(x, 2, 8, 7, 8);
        due("sheet -1", x.move(-1, 0, 3, 0, 0), BEYOND);
        due("sheet 4", x.move(4, 0, 0, 0, 0), BEYOND);
        due("other -1", x.move(3, 0, -1, 0, 0), BEYOND);
        due("other 4", x.move(0, 0, 4, 0, 0), BEYOND);
        due("missing, ahead of the numbers", x.move(3, -1, 0, 0, 0), NONE);
        due("other missing", x.move(0, 0, 3, 0, -1), NONE);
        due("unlike, ahead of the numbers", x.move(0, -1, 1, 0, 0), KIND);
        due("n -1", x.move(0, 0, 2, 0, -1), BEYOND);
        due("i -1", x.move(0, -1, 2, 0, 1), BEYOND);
        due("j -1", x.move(0, 0, 2, -1, 1), BEYOND);
        due("i too far", x.move(0, 3, 2, 0, 1), BEYOND);
        due("j too far", x.move(0, 0, 2, 1, 2), BEYOND);
        due("n too many", x.move(2, 0, 0, 0, 3), BEYOND);
        due("n MAX", x.move(0, 1, 0, 1, MAX), BEYOND);
        due("i MAX", x.move(0, MAX, 0, 1, 1), BEYOND);
        due("j MAX", x.move(0, 1, 0, MAX, 1), BEYOND);
        due("n MIN", x.move(0, 1, 0, 1, MIN), BEYOND);
        due("none from where there is none", x.move(0, 4, 0, 0, 0), BEYOND);
        holds("from stays", x, 0, 1, 2, 3);
        holds("to stays", x, 2, 7, 8);
        Due.toldAre(x, 15, 2, 0, 0, 1, 0);
    }

    private static void promise31() {
        StairCourt x = wide();
        Due.sheet(x, 0, 8, 3, 20, 0, 21, 5);
        x.carry(3, 9);
        due("up to the first above", x.carries(0), 3);
        due("carried 0", x.personIs(0, 0), 3);
        due("carried 1, UP", x.personIs(1, 4), 1);
        due("carried 2", x.personIs(2, 0), 0);
        due("not carried 3", x.personIs(3, 0), 9);
        due("not carried 4", x.personIs(4, 0), 0);
        Due.sheet(x, 0, 8, 1, 2, 3, 4, 5, 6);
        due("nobody for the sixth", x.carries(0), 5);
        due("carried 4", x.personIs(4, 0), 5);
        Due.sheet(x, 0, 32, -1, 2);
        due("below 0", x.carries(0), 0);
        Due.sheet(x, 0, 8, 7);
        due("one number", x.carries(0), 1);
        due("none for the second", x.personIs(1, 0), 2);
        x.sheet(0, 8, 0);
        due("no numbers", x.carries(0), 0);
        due("missing", x.carries(1), NONE);
        due("sheet 4", x.carries(4), BEYOND);
        due("sheet -1", x.carries(-1), BEYOND);
        Due.toldAre(x, 2, 1, 0, 0, 0, 0);
    }

    private static void promise32() {
        StairCourt x = wide();
        for (int i = 0; i < 5; i++) {
            x.carry(i, 4 * i);
        }
        Due.sheet(x, 0, 8, 0, 4, 8, 12, 16);
        due("all", x.judge(0), 5);
        Due.sheet(x, 0, 8, 0, 4, 8);
        due("as many as there are", x.judge(0), 3);
        Due.sheet(x, 0, 8, 0, 4, 9, 12, 16);
        due("from the first on", x.judge(0), 2);
        Due.sheet(x, 0, 8, 1, 4, 8);
        due("none", x.judge(0), 0);
        Due.sheet(x, 0, 8, 0, 4, 8, 12, 16, 0);
        due("nobody for the sixth", x.judge(0), 5);
        due("nobody moved", x.personIs(4, 0), 16);
        x.sheet(0, 8, 0);
        due("no numbers", x.judge(0), 0);
        due("missing", x.judge(1), NONE);
        due("sheet 4", x.judge(4), BEYOND);
        due("sheet -1", x.judge(-1), BEYOND);
        Due.toldAre(x, 2, 1, 0, 0, 0, 0);
    }
}
