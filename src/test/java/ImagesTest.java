/** Promises 33 to 38: IMAGES, numbers that wait, what is counted and told. */
public final class ImagesTest extends Promise {
    public static void main(String[] args) {
        promise33and34();
        promise33leaves();
        promise34errors();
        promise34fewer();
        promise35();
        promise36();
        promise37();
        promise38();
        Due.end("ImagesTest");
    }

    private static StairCourt full() {
        StairCourt x = Due.court(5, 34);
        x.person(7);
        x.say(0, 30);
        x.say(0, 30);
        x.bribe(0);
        Due.text(x, 0, "w>3");
        Due.text(x, 1, "b+1");
        Due.feed(x, "1+");
        x.tell(9);
        x.tell(5);
        x.hours(9);
        x.seed(44);
        return x;
    }

    private static void isFull(StairCourt x) {
        int[] counts = {2, 1, 9, 2, 2};
        for (int what = 0; what < counts.length; what++) {
            due("count " + what, x.count(what), counts[what]);
        }
        due("z", x.count(6), 44);
        int[] person = {1, 4, 11, 1, 0};
        for (int what = 0; what < person.length; what++) {
            due("personIs " + what, x.personIs(0, what), person[what]);
        }
        due("kind 0", x.stepIs(0, 0), 0);
        due("m 0", x.stepIs(0, 1), 5);
        due("heard 0", x.stepIs(0, 2), 1);
        due("kind 1", x.stepIs(1, 0), 3);
        due("m 1", x.stepIs(1, 1), 4);
        due("heard 1", x.stepIs(1, 2), 1);
        due("heeds", x.law(0, 3, 0, 0), 0);
        due("bribe", x.law(1, 3, 0, 0), 4);
    }

    private static void changeAll(StairCourt x) {
        x.step(0);
        x.become(0, 61);
        x.become(1, 62);
        x.person(3);
        x.rests(0, 50);
        x.say(0, 0);
        x.say(0, 99);
        x.bribe(0);
        x.untell(0);
        Due.text(x, 1, "7");
        Due.feed(x, "9999");
        x.check();
        x.tell(8);
        x.hours(2);
        x.seed(3);
    }

    private static void promise33and34() {
        StairCourt x = full();
        isFull(x);
        due("image", x.image(), 1);
        isFull(x);
        changeAll(x);
        due("restore", x.restore(), 9);
        isFull(x);
        due("THE TAPE as it was", Due.text(x, 1, "b"), 1);
        due("1+b", x.law(1, 5, 0, 0), 6);
        due("the first that waits", x.check(), 1);
        due("restore again: the IMAGE stays", x.restore(), 9);
        isFull(x);
        x.rests(0, 9);
        due("the second that waits", x.check(), 2);
        due("image in place of the one ahead", x.image(), 2);
        x.restore();
        due("legs as by the second", x.personIs(0, 1), 9);
        due("third", x.image(), 3);
    }

    private static void promise33leaves() {
        StairCourt x = full();
        Due.sheet(x, 0, 8, 1);
        x.voice(0, 0, 1);
        x.image();
        Due.sheet(x, 0, 8, 2, 2);
        x.voice(1, 2, 1);
        x.step(-1);
        x.image();
        due("restore", x.restore(), 9);
        due("THE TRACE stays", x.count(5), 4);
        due("its first body", x.body(0), 40);
        due("told stays", x.told(1), 1);
        due("how often stays", x.image(), 3);
        due("SHEETS stay", x.move(0, 0, 0, 0, 2), 2);
    }

    private static void promise34errors() {
        StairCourt x = new StairCourt();
        x.step(0);
        due("none", x.restore(), NONE);
        due("nothing changed", x.count(0), 1);
        due("told", x.told(2), 1);
        x.image();
        due("one", x.restore(), 0);
    }

    /** What was there is gone: a new judge and a new one of PEOPLE are as at first. */
    private static void promise34fewer() {
        StairCourt x = new StairCourt();
        x.image();
        x.step(5);
        x.person(9);
        x.say(0, 99);
        x.carry(0, 0);
        x.say(0, 0);
        x.carry(0, 0);
        x.bribe(0);
        x.restore();
        due("no steps", x.stepIs(0, 0), BEYOND);
        due("no people", x.personIs(0, 0), BEYOND);
        x.person(4);
        x.step(1);
        due("heard", x.stepIs(0, 2), 0);
        int[] person = {0, 4, 0, 0, 0};
        for (int what = 0; what < person.length; what++) {
            due("personIs " + what, x.personIs(0, what), person[what]);
        }
    }

    private static void promise35() {
        StairCourt x = new StairCourt();
        for (int i = 1; i <= 24; i++) {
            due("tell " + i, x.tell(MIN), i);
        }
        due("full", x.tell(0), FULL);
        due("count", x.count(4), 24);
        due("told", x.told(4), 1);
        due("check", x.check(), 1);
        due("again", x.tell(0), 1);
    }

    private static void promise36() {
        StairCourt x = new StairCourt();
        due("nothing waits", x.check(), 0);
        x.tell(0);
        due("nobody", x.check(), 1);
        for (int i = 0; i < 5; i++) {
            x.person(10 + i);
        }
        tell(x, 10, 11, 12, 13, 14);
        due("all", x.check(), 0);
        due("none waits", x.count(4), 0);
        tell(x, 10, 11);
        due("some", x.check(), 0);
        tell(x, 10, 11, 13, 13, 15);
        due("the first that isn't", x.check(), 3);
        due("none waits then, too", x.count(4), 0);
        tell(x, 10, 11, 12, 13, 14, 0);
        due("nobody for the sixth", x.check(), 6);
        Due.toldAre(x, 0, 0, 0, 0, 0, 0);
    }

    private static void tell(StairCourt x, int... numbers) {
        for (int v : numbers) {
            x.tell(v);
        }
    }

    private static void promise37() {
        StairCourt x = Due.court(4, 4, 44);
        x.person(1);
        x.person(1);
        x.hours(5);
        Due.feed(x, "1111");
        tell(x, 1, 2, 3, 4, 5, 6);
        x.voice(2, 2, 1);
        x.seed(PARTED);
        int[] want = {3, 2, 5, 4, 6, 6, PARTED};
        for (int what = 0; what <= 6; what++) {
            due("count " + what, x.count(what), want[what]);
        }
        due("z is no ERROR", x.told(6), 0);
        due("what -1", x.count(-1), BEYOND);
        due("what 7", x.count(7), BEYOND);
        due("what MIN", x.count(MIN), BEYOND);
        due("told", x.told(1), 3);
    }

    private static void promise38() {
        StairCourt x = Due.court(0);
        x.person(0);
        x.step(70);
        x.restore();
        x.body(0);
        x.say(0, 0);
        x.bribe(0);
        x.hours(48);
        x.sheet(0, 8, -1);
        x.as(0, 1);
        x.as(0, 2);
        x.voice(0, 3, 5);
        for (int i = 0; i < 30; i++) {
            x.tell(0);
        }
        Due.toldAre(x, 1, 2, 3, 6, 2, 1);
        due("k 0", x.told(0), BEYOND);
        due("k 7", x.told(7), BEYOND);
        due("k -1", x.told(-1), BEYOND);
        due("k MIN", x.told(MIN), BEYOND);
        due("k MAX", x.told(MAX), BEYOND);
        Due.toldAre(x, 6, 2, 3, 6, 2, 1);
    }
}
