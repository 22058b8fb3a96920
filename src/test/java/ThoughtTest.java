/** Promises 20 to 25: what would be. */
public final class ThoughtTest extends Promise {
    public static void main(String[] args) {
        promise20();
        promise21();
        promise21errors();
        promise22();
        promise22errors();
        promise23();
        promise24();
        promise25();
        promise25errors();
        Due.end("ThoughtTest");
    }

    private static void promise20() {
        StairCourt x = Due.court(9, 19, 29, 39, 49, 59, 69);
        int[] many = {55, 19, 59, 1, 0, 44, 55};
        int[] least = {45, 45, 9, 63, NONE, 9, 45};
        for (int i = 0; i < 7; i++) {
            due("how many " + i, x.words(i, 0), many[i]);
            due("the least " + i, x.words(i, 1), least[i]);
        }
        x.become(0, 0);
        due("0 as the least", x.words(0, 1), 0);
        x.become(0, 9);
        due("no step", x.words(7, 0), BEYOND);
        due("no step -1", x.words(-1, 1), BEYOND);
        due("what -1", x.words(0, -1), BEYOND);
        due("what 2", x.words(0, 2), BEYOND);
        Due.toldAre(x, 4, 1, 0, 0, 0, 0);
        Due.text(x, 0, "w>60");
        due("by a TEXT", x.words(0, 0), 39);
        due("the least by a TEXT", x.words(0, 1), 61);
    }

    private static void promise21() {
        StairCourt x = Due.court(5, 60, 5);
        x.person(6);
        x.person(0);
        Due.sheet(x, 0, 8, 30, 0, 0, 30, 0, 30, 99, 98);
        // Up to 1; the mute nods (heard 0): 2; down to 0; 1; the mute, now heard by 1, doesn't: 0; 1, no legs.
        due("at", x.climb(0, 0, 0), 1);
        due("said", x.climb(0, 0, 1), 6);
        due("fell", x.climb(0, 0, 2), 2);
        due("only thought: at", x.personIs(0, 0), 0);
        due("only thought: legs", x.personIs(0, 1), 6);
        due("only thought: falls", x.personIs(0, 3), 0);
        due("only thought: heard", x.stepIs(0, 2) + x.stepIs(1, 2) + x.stepIs(2, 2), 0);
        due("no legs: at", x.climb(1, 0, 0), 0);
        due("no legs: said", x.climb(1, 0, 1), 0);
        x.say(0, 0);
        due("fell, as they are more", x.climb(0, 0, 2), 2);
        due("said, as legs are fewer", x.climb(0, 0, 1), 5);
        Due.sheet(x, 1, 32, 50, 50, 50, 50);
        due("UP", x.climb(0, 1, 0), 3);
        due("said to UP", x.climb(0, 1, 1), 3);
        x.sheet(1, 16, 0);
        due("nothing to say", x.climb(0, 1, 1), 0);
    }

    private static void promise21errors() {
        StairCourt x = Due.court(5);
        x.person(0);
        Due.sheet(x, 0, 8, 1, 100);
        Due.sheet(x, 1, 32, -1);
        Due.sheet(x, 2, 16, 99, 0);
        due("nobody", x.climb(1, 3, 0), BEYOND);
        due("nobody -1", x.climb(-1, 0, 0), BEYOND);
        due("sheet -1", x.climb(0, -1, 0), BEYOND);
        due("sheet 4", x.climb(0, 4, 0), BEYOND);
        due("what -1", x.climb(0, 3, -1), BEYOND);
        due("what 3", x.climb(0, 0, 3), BEYOND);
        due("missing", x.climb(0, 3, 0), NONE);
        due("100 is no WORD", x.climb(0, 0, 0), STATE);
        due("-1 is no WORD", x.climb(0, 1, 0), STATE);
        due("99 and 0 are", x.climb(0, 2, 0), 0);
        Due.toldAre(x, 6, 1, 2, 0, 0, 0);
    }

    private static void promise22() {
        StairCourt x = Due.court(34, 0, 35, 30);
        x.person(0);
        are(x, 3, 0, 28, 35);
        x.carry(0, 1);
        are(x, 2, 0, 35, -1);
        x.carry(0, 2);
        are(x, 2, 0, 35, -1);
        x.carry(0, 3);
        are(x, 1, 0, -1, -1);
        x.carry(0, 4);
        are(x, 0, -1, -1, -1);
        // Of STRICT ones with 0, 1, 2 three words are needed, the first that do.
        StairCourt y = Due.court(10, 11, 12, 9);
        y.person(0);
        are(y, 3, 0, 7, 47);
        Due.text(y, 0, "w<5|w>59");
        are(y, 3, 0, 61, 62);
        y.become(2, 10);
        are(y, 2, 0, 61, -1);
        Due.text(y, 0, "w=99|w=49&s=1");
        are(y, 2, 49, 99, -1);
        Due.text(y, 0, "w>10");
        are(y, 2, 12, 46, -1);
    }

    private static void are(StairCourt x, int many, int first, int second, int third) {
        due("how many", x.fewest(0, -1), many);
        due("first", x.fewest(0, 0), first);
        due("second", x.fewest(0, 1), second);
        due("third", x.fewest(0, 2), third);
    }

    private static void promise22errors() {
        StairCourt x = Due.court(31, 32, 33, 34);
        x.person(0);
        for (int what = -1; what <= 2; what++) {
            due("not by 3", x.fewest(0, what), NONE);
        }
        x.carry(0, 1);
        are(x, 3, 14, 21, 28);
        due("nobody", x.fewest(1, 0), BEYOND);
        due("nobody -1", x.fewest(-1, 0), BEYOND);
        due("what -2", x.fewest(0, -2), BEYOND);
        due("what 3", x.fewest(0, 3), BEYOND);
        Due.toldAre(x, 4, 4, 0, 0, 0, 0);
        Due.text(x, 0, "0");
        due("nobody is CONTENT", x.fewest(0, -1), NONE);
        x.carry(0, 4);
        due("nobody needs to be", x.fewest(0, -1), 0);
        // Twenty judges, none CONTENT with a word of another.
        StairCourt y = new StairCourt();
        y.person(0);
        for (int i = 0; i < 20; i++) {
            y.step(0);
        }
        Due.text(y, 0, "w%20=s");
        due("twenty need twenty", y.fewest(0, -1), NONE);
        y.carry(0, 17);
        are(y, 3, 17, 18, 19);
    }

    private static void promise23() {
        StairCourt x = Due.court(34, 9, 19, 0);
        x.person(0);
        Due.sheet(x, 0, 16, 28, 100, 46, 65535);
        due("sum", x.cheapest(0, 0, 0), 19);
        due("whose", x.cheapest(0, 0, 1), 1 << 2);
        Due.sheet(x, 0, 32, -1, 100, 227);
        due("sum of all", x.cheapest(0, 0, 0), 20 + 10 + 19 + 10);
        due("whose of all", x.cheapest(0, 0, 1), 15);
        x.carry(0, 2);
        due("sum from 2", x.cheapest(0, 0, 0), 29);
        due("whose from 2", x.cheapest(0, 0, 1), 12);
        x.carry(0, 4);
        due("sum from UP", x.cheapest(0, 0, 0), 0);
        due("whose from UP", x.cheapest(0, 0, 1), 0);
        x.carry(0, 0);
        Due.text(x, 1, "s*10+k");
        due("by a TEXT", x.cheapest(0, 0, 0), 3 + 10 + 21 + 30);
        due("nobody", x.cheapest(1, 3, 0), BEYOND);
        due("nobody -1", x.cheapest(-1, 0, 0), BEYOND);
        due("sheet 4", x.cheapest(0, 4, 0), BEYOND);
        due("sheet -1", x.cheapest(0, -1, 0), BEYOND);
        due("what 2", x.cheapest(0, 0, 2), BEYOND);
        due("what -1", x.cheapest(0, 3, -1), BEYOND);
        due("missing", x.cheapest(0, 3, 0), NONE);
        Due.toldAre(x, 6, 1, 0, 0, 0, 0);
        StairCourt y = new StairCourt();
        for (int i = 0; i < 20; i++) {
            y.step(0);
        }
        y.person(0);
        y.sheet(0, 8, 0);
        due("twenty as a set", y.cheapest(0, 0, 1), (1 << 20) - 1);
    }

    private static void promise24() {
        StairCourt x = Due.court(5, 12, 23, 34, 45);
        x.person(3);
        fraction(x, 0, 1, 1);
        fraction(x, 1, 3, 4);
        fraction(x, 2, 9, 40);
        fraction(x, 3, 783, 4000);
        fraction(x, 4, 783, 400000);
        x.carry(0, 3);
        fraction(x, 1, 1, 100);
        fraction(x, 2, 0, 1);
        fraction(x, 4, 0, 1);
        x.hours(12);
        fraction(x, 4, 1, 400);
        x.carry(0, 5);
        fraction(x, 4, 1, 1);
        x.become(0, 0);
        x.carry(0, 0);
        fraction(x, 1, 1, 1);
        due("nobody", x.odds(1, 0, 0), BEYOND);
        due("nobody -1", x.odds(-1, 0, 0), BEYOND);
        due("n -1", x.odds(0, -1, 0), BEYOND);
        due("n 5", x.odds(0, 5, 0), BEYOND);
        due("part -1", x.odds(0, 0, -1), BEYOND);
        due("part 2", x.odds(0, 0, 2), BEYOND);
        Due.toldAre(x, 6, 0, 0, 0, 0, 0);
        StairCourt y = Due.court(31, 32, 33, 34);
        y.person(0);
        fraction(y, 4, 1, 100000000);
    }

    private static void fraction(StairCourt x, int n, long above, long below) {
        due("above by " + n, x.odds(0, n, 0), above);
        due("below by " + n, x.odds(0, n, 1), below);
    }

    private static void promise25() {
        StairCourt x = Due.court(5, 12, 30);
        Due.sheet(x, 0, 8, 1, 0);
        due("1 0", x.fits(0, 0), 50);
        due("1 0 least", x.fits(0, 1), 25);
        Due.sheet(x, 0, 8, 0, 1);
        due("0 1", x.fits(0, 0), 5);
        due("0 1 least", x.fits(0, 1), 11);
        Due.sheet(x, 0, 8, 0, 0, 1);
        due("0 0 1", x.fits(0, 0), 1);
        due("0 0 1 least", x.fits(0, 1), 0);
        x.sheet(0, 32, 0);
        due("nothing told", x.fits(0, 0), 100);
        due("nothing told, least", x.fits(0, 1), 0);
        Due.sheet(x, 0, 32, 1, -1);
        due("-1 is neither", x.fits(0, 0), 0);
        Due.sheet(x, 0, 8, 0, 0, 0, 0);
        due("of nobody nothing is so", x.fits(0, 0), 0);
    }

    private static void promise25errors() {
        StairCourt x = Due.court(0);
        Due.sheet(x, 0, 8, 0);
        due("how many", x.fits(0, 0), 0);
        due("none", x.fits(0, 1), NONE);
        due("missing", x.fits(1, 0), NONE);
        due("missing, least", x.fits(1, 1), NONE);
        due("BEYOND ahead of NONE", x.fits(1, 2), BEYOND);
        due("what -1", x.fits(0, -1), BEYOND);
        due("sheet 4", x.fits(4, 0), BEYOND);
        due("sheet -1", x.fits(-1, 0), BEYOND);
        Due.toldAre(x, 4, 3, 0, 0, 0, 0);
    }
}
