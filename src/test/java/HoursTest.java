/** Promises 17 to 19: hours, by draws too. */
public final class HoursTest extends Promise {
    public static void main(String[] args) {
        promise17();
        promise17rests();
        promise17last();
        promise18();
        promise18order();
        promise18last();
        promise19();
        Due.end("HoursTest");
    }

    private static void promise17() {
        StairCourt x = new StairCourt();
        due("n 0", x.hours(0), BEYOND);
        due("n -1", x.hours(-1), BEYOND);
        due("n 49", x.hours(49), BEYOND);
        due("n MIN", x.hours(MIN), BEYOND);
        due("one", x.hours(1), 1);
        due("more", x.hours(48), 49);
        due("count", x.count(2), 49);
        due("no draw", x.count(6), 1);
        Due.toldAre(x, 4, 0, 0, 0, 0, 0);
    }

    private static void promise17rests() {
        StairCourt x = Due.court(0, 0, 0, 0, 0, 0, 0, 0, 0, 0, 0);
        int[] at = {0, 4, 5, 10, 6};
        for (int i = 0; i < at.length; i++) {
            x.person(i == 3 ? 990 : i);
            x.carry(i, at[i]);
        }
        x.hours(12);
        int[] legs = {12, 1, 14, 999, 4};
        for (int i = 0; i < at.length; i++) {
            due("legs " + i, x.personIs(i, 1), legs[i]);
            due("at " + i, x.personIs(i, 0), at[i]);
        }
        // AT tells UP by the number of the STEP that would be next, which 5 may divide as well.
        StairCourt y = Due.court(0, 0, 0, 0, 0);
        y.person(3);
        y.carry(0, 5);
        y.hours(2);
        due("UP on 5", y.personIs(0, 1), 5);
        y.step(0);
        y.carry(0, 6);
        y.hours(2);
        due("UP on 6", y.personIs(0, 1), 5);
    }

    private static void promise17last() {
        StairCourt x = new StairCourt();
        for (int i = 0; i < 208; i++) {
            x.hours(48);
        }
        due("9984", x.count(2), 9984);
        due("above", x.hours(16), STATE);
        due("above 48", x.hours(48), STATE);
        due("BEYOND ahead of STATE", x.hours(49), BEYOND);
        due("to the last", x.hours(15), 9999);
        due("no more", x.hours(1), STATE);
        due("loose no more", x.loose(1), STATE);
        due("loose BEYOND ahead of STATE", x.loose(0), BEYOND);
        Due.toldAre(x, 2, 0, 4, 0, 0, 0);
    }

    private static int z;

    private static int draw() {
        z = z * 1103515245 + 12345;
        return (z >>> 8) % 100;
    }

    private static void promise18() {
        StairCourt x = Due.court(19);
        x.person(40);
        z = 1;
        int fell = 0;
        int went = 0;
        for (int i = 0; i < 30 && went == 0; i++) {
            int word = draw();
            boolean content = word >= 45 && word % 3 == 0;
            fell += content ? 0 : 1;
            went += content ? 1 : 0;
            due("fell by " + word, x.loose(1), content ? 0 : 1);
        }
        due("z", x.count(6), z);
        due("falls", x.personIs(0, 3), fell);
        due("UP", x.personIs(0, 4), 1);
        due("UP draws nothing", x.loose(30), 0);
        due("z stays", x.count(6), z);
        due("hour", x.count(2), fell + went + 30);
        due("n 31", x.loose(31), BEYOND);
        due("n 0", x.loose(0), BEYOND);
        due("n -1", x.loose(-1), BEYOND);
        Due.toldAre(x, 3, 0, 0, 0, 0, 0);
    }

    /** PEOPLE by numbers, those who CAN GO alone, then the hour. */
    private static void promise18order() {
        StairCourt x = Due.court(5, 5, 5, 5, 5, 5, 5);
        x.person(1);
        x.person(0);
        x.person(1);
        x.person(1);
        x.carry(0, 1);
        x.carry(2, 7);
        x.carry(3, 3);
        x.seed(77);
        z = 77;
        boolean first = draw() >= 25;
        boolean second = draw() >= 25;
        due("loose", x.loose(1), (first ? 0 : 1) + (second ? 0 : 1));
        due("two draws", x.count(6), z);
        due("at of 0", x.personIs(0, 0), first ? 2 : 0);
        due("at of 3", x.personIs(3, 0), second ? 4 : 1);
        due("legs of 0", x.personIs(0, 1), first ? 0 : 1);
        due("legs of 1", x.personIs(1, 1), 1);
        due("legs of 2", x.personIs(2, 1), 1);
        due("legs of 3", x.personIs(3, 1), 0);
        due("hour", x.count(2), 1);
    }

    private static void promise18last() {
        StairCourt x = new StairCourt();
        for (int i = 0; i < 333; i++) {
            x.loose(30);
        }
        due("9990", x.count(2), 9990);
        due("above", x.loose(10), STATE);
        due("to the last", x.loose(9), 0);
        due("hour", x.count(2), 9999);
        due("no more", x.hours(1), STATE);
    }

    private static void promise19() {
        StairCourt x = Due.court(0);
        due("seed", x.seed(MIN), 1);
        due("seed again", x.seed(-1000000001), MIN);
        due("no ERROR", x.seed(5), -1000000001);
        due("count", x.count(6), 5);
        Due.toldAre(x, 0, 0, 0, 0, 0, 0);
        x.person(1);
        x.loose(1);
        due("draw", x.count(6), 5 * 1103515245 + 12345);
        x.seed(-1);
        x.rests(0, 1);
        x.carry(0, 0);
        x.loose(1);
        due("draw of a number below 0", x.count(6), -1103515245 + 12345);
    }
}
