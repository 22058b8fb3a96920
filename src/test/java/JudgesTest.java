/** Promises 1 to 12: judges and people. */
public final class JudgesTest extends Promise {
    public static void main(String[] args) {
        promise1();
        promise2();
        promise3();
        promise4();
        promise5();
        promise6();
        promise7();
        promise8();
        promise9();
        promise10nods();
        promise10heeds();
        promise11();
        promise11held();
        promise12();
        Due.end("JudgesTest");
    }

    private static void promise1() {
        StairCourt x = new StairCourt();
        for (int what = 0; what <= 5; what++) {
            due("new: count(" + what + ")", x.count(what), 0);
        }
        due("new: z", x.count(6), 1);
        due("new: stepIs", x.stepIs(0, 0), BEYOND);
        due("new: personIs", x.personIs(0, 0), BEYOND);
        due("new: untell 0", x.untell(0), 0);
        due("new: untell 1", x.untell(1), 0);
        due("new: law 0", x.law(0, 0, 0, 0), 1);
        due("new: law 1", x.law(1, 7, 0, 0), 7);
        for (int sheet = 0; sheet < 4; sheet++) {
            due("new: sheet " + sheet, x.judge(sheet), NONE);
        }
        due("new: body", x.body(0), NONE);
        due("new: restore", x.restore(), NONE);
        due("new: check", x.check(), 0);
        Due.toldAre(x, 2, 6, 0, 0, 0, 0);
    }

    private static void promise2() {
        StairCourt x = new StairCourt();
        x.person(3);
        due("step below", x.step(-1), BEYOND);
        due("step above", x.step(70), BEYOND);
        due("step MIN", x.step(MIN), BEYOND);
        due("step MAX", x.step(MAX), BEYOND);
        due("UP ahead", x.personIs(0, 4), 1);
        due("first step", x.step(69), 0);
        due("no more UP", x.personIs(0, 4), 0);
        due("kind of 69", x.stepIs(0, 0), 6);
        due("m of 69", x.stepIs(0, 1), 9);
        x.carry(0, 1);
        due("UP again", x.personIs(0, 4), 1);
        for (int i = 1; i < 20; i++) {
            due("step " + i, x.step(0), i);
        }
        due("UP no more, AT stays", x.personIs(0, 4) + x.personIs(0, 0), 1);
        due("BEYOND ahead of FULL", x.step(70), BEYOND);
        due("twenty-first", x.step(0), FULL);
        due("count", x.count(0), 20);
        Due.toldAre(x, 5, 0, 0, 1, 0, 0);
    }

    private static void promise3() {
        StairCourt x = Due.court(5, 12, 23, 34, 45, 56, 67);
        int[] bribes = {10, 12, 5, 20, 10 + 5 + 4, 4, 0};
        for (int i = 0; i < 7; i++) {
            due("kind " + i, x.stepIs(i, 0), i);
            due("heard " + i, x.stepIs(i, 2), 0);
            due("bribe " + i, x.stepIs(i, 3), bribes[i]);
        }
        due("m 6", x.stepIs(6, 1), 7);
        due("no step -1", x.stepIs(-1, 0), BEYOND);
        due("no step 7", x.stepIs(7, 0), BEYOND);
        due("no what -1", x.stepIs(0, -1), BEYOND);
        due("no what 4", x.stepIs(0, 4), BEYOND);
        Due.toldAre(x, 4, 0, 0, 0, 0, 0);
        x.person(999);
        int[] heard = {13, 15, 6, 26, 22, 5, 0};
        for (int i = 0; i < 7; i++) {
            for (int n = 0; n < 13; n++) {
                x.carry(0, i);
                x.say(0, 99);
            }
            due("heard 13 by " + i, x.stepIs(i, 2), 13);
            due("bribe by 13 heard " + i, x.stepIs(i, 3), heard[i]);
        }
    }

    private static void promise4() {
        StairCourt x = Due.court(5, 12);
        x.person(9);
        x.say(0, 1);
        due("become", x.become(0, 34), 0);
        due("become again", x.become(0, 60), 3);
        due("kind", x.stepIs(0, 0), 6);
        due("m", x.stepIs(0, 1), 0);
        due("heard stays", x.stepIs(0, 2), 1);
        due("other stays", x.stepIs(1, 0), 1);
        due("no step -1", x.become(-1, 0), BEYOND);
        due("no step 2", x.become(2, 0), BEYOND);
        due("no km -1", x.become(0, -1), BEYOND);
        due("no km 70", x.become(0, 70), BEYOND);
        due("kind as it was", x.become(1, 69), 1);
        Due.toldAre(x, 4, 0, 0, 0, 0, 0);
    }

    private static void promise5() {
        StairCourt x = Due.court(1, 12, 23, 34, 45, 56, 67);
        String[] under = {"0", "01", "02", "03", "014", "025", "06"};
        for (int i = 0; i < 7; i++) {
            for (int kind = 0; kind < 7; kind++) {
                boolean is = under[i].indexOf('0' + kind) >= 0;
                due("as(" + i + ", " + kind + ")", x.as(i, kind), is ? i + 1 : KIND);
            }
        }
        due("no step", x.as(7, 0), BEYOND);
        due("no step -1", x.as(-1, 0), BEYOND);
        due("no kind 7", x.as(0, 7), BEYOND);
        due("no kind -1", x.as(0, -1), BEYOND);
        Due.toldAre(x, 4, 0, 0, 0, 49 - 15, 0);
    }

    private static void promise6() {
        StairCourt x = new StairCourt();
        due("legs -1", x.person(-1), BEYOND);
        due("legs 1000", x.person(1000), BEYOND);
        for (int i = 0; i < 5; i++) {
            due("person " + i, x.person(i == 4 ? 999 : i), i);
        }
        due("BEYOND ahead of FULL", x.person(1000), BEYOND);
        due("sixth", x.person(0), FULL);
        due("count", x.count(1), 5);
        due("legs 4", x.personIs(4, 1), 999);
        due("legs 2", x.personIs(2, 1), 2);
        Due.toldAre(x, 3, 0, 0, 1, 0, 0);
    }

    private static void promise7() {
        StairCourt x = Due.court(9, 0);
        x.person(7);
        x.say(0, 3);
        x.bribe(0);
        int[] want = {1, 5, 11, 1, 0};
        for (int what = 0; what < 5; what++) {
            due("personIs " + what, x.personIs(0, what), want[what]);
        }
        x.carry(0, 2);
        due("UP", x.personIs(0, 4), 1);
        due("nobody", x.personIs(1, 0), BEYOND);
        due("nobody -1", x.personIs(-1, 0), BEYOND);
        due("what -1", x.personIs(0, -1), BEYOND);
        due("what 5", x.personIs(0, 5), BEYOND);
        Due.toldAre(x, 4, 0, 0, 0, 0, 0);
    }

    private static void promise8() {
        StairCourt x = new StairCourt();
        x.person(7);
        due("rests", x.rests(0, 999), 7);
        due("rests 0", x.rests(0, 0), 999);
        due("legs -1", x.rests(0, -1), BEYOND);
        due("legs 1000", x.rests(0, 1000), BEYOND);
        due("nobody", x.rests(1, 5), BEYOND);
        due("nobody -1", x.rests(-1, 5), BEYOND);
        due("legs stay", x.personIs(0, 1), 0);
        Due.toldAre(x, 4, 0, 0, 0, 0, 0);
    }

    private static void promise9() {
        StairCourt x = Due.court(0, 0, 0);
        x.person(7);
        due("carry", x.carry(0, 2), 0);
        due("carry UP", x.carry(0, 3), 2);
        due("UP", x.personIs(0, 4), 1);
        due("above UP", x.carry(0, 4), BEYOND);
        due("below", x.carry(0, -1), BEYOND);
        due("nobody", x.carry(1, 0), BEYOND);
        due("nobody -1", x.carry(-1, 0), BEYOND);
        due("carry down", x.carry(0, 0), 3);
        due("legs stay", x.personIs(0, 1), 7);
        Due.toldAre(x, 4, 0, 0, 0, 0, 0);
        due("falls stay", x.personIs(0, 3), 0);
    }

    /** A judge of each KIND with 4, the DEAF at noon. */
    private static StairCourt noon() {
        StairCourt x = Due.court(4, 14, 24, 34, 44, 54, 64);
        x.hours(11);
        due("DEAF at hour 11", x.content(4, 22), 0);
        x.hours(1);
        return x;
    }

    private static void promise10words(int from, int to) {
        StairCourt x = noon();
        for (int w = from; w < to; w++) {
            boolean plain = w >= 20;
            boolean strict = plain && w % 3 == 1;
            boolean mild = plain || w == 4 || w == 14;
            duty("JUDGE", x.content(0, w), plain);
            duty("STRICT", x.content(1, w), strict);
            duty("MILD", x.content(2, w), mild);
            duty("SAME", x.content(3, w), w == 28);
            duty("DEAF at noon", x.content(4, w), strict);
            duty("CHILD", x.content(5, w), mild && w < 85);
            duty("MUTE", x.content(6, w), plain);
        }
    }

    private static void promise10nods() {
        promise10words(0, 50);
        promise10words(50, 100);
        StairCourt x = noon();
        x.hours(11);
        due("DEAF at hour 23", x.content(4, 22), 1);
        x.hours(1);
        due("DEAF at hour 24", x.content(4, 22), 0);
        x.hours(12);
        due("DEAF at hour 36", x.content(4, 22), 1);
        x.person(9);
        x.carry(0, 6);
        x.say(0, 0);
        due("MUTE by 1", x.content(6, 99), 0);
        x.carry(0, 6);
        x.say(0, 0);
        due("MUTE by 2", x.content(6, 99), 1);
        due("content keeps HEARD", x.stepIs(6, 2), 2);
        due("no step", x.content(7, 0), BEYOND);
        due("no step -1", x.content(-1, 0), BEYOND);
        due("no word 100", x.content(0, 100), BEYOND);
        due("no word -1", x.content(0, -1), BEYOND);
        Due.toldAre(x, 4, 0, 0, 0, 0, 0);
    }

    private static void promise10heeds() {
        StairCourt x = Due.court(0, 5);
        due("text of s, m and w", Due.text(x, 0, "s=1&m=5&w=40"), 1);
        due("heeds", x.content(1, 40), 1);
        due("doesn't heed", x.content(1, 41), 0);
        due("other step", x.content(0, 40), 0);
        Due.text(x, 0, "w");
        due("above 1 is 1", x.content(0, 9), 1);
        due("0 is 0", x.content(0, 0), 0);
        due("nods all the same", x.content(1, 24), 0);
        Due.text(x, 0, "0-w");
        due("below 0 is 0", x.content(0, 9), 0);
    }

    private static void promise11() {
        StairCourt x = Due.court(5, 5, 5, 65);
        x.person(8);
        due("content", x.say(0, 25), 1);
        due("content again", x.say(0, 99), 2);
        due("down two", x.say(0, 24), 0);
        due("stays at 0", x.say(0, 0), 0);
        due("up", x.say(0, 50), 1);
        due("down from 1", x.say(0, 0), 0);
        due("falls", x.personIs(0, 3), 3);
        due("legs", x.personIs(0, 1), 2);
        due("heard 0", x.stepIs(0, 2), 3);
        due("heard 1", x.stepIs(1, 2), 2);
        x.carry(0, 3);
        due("as ahead of HEARD", x.say(0, 25), 4);
        due("UP now", x.say(0, 25), STATE);
        x.carry(0, 3);
        due("mute by 1", x.say(0, 25), 1);
        due("no legs", x.say(0, 25), STATE);
        due("BEYOND ahead of STATE", x.say(0, 100), BEYOND);
        due("no word", x.say(0, -1), BEYOND);
        due("nobody", x.say(1, 5), BEYOND);
        due("nobody -1", x.say(-1, 5), BEYOND);
        due("nothing heard by an ERROR", x.stepIs(1, 2), 2);
        Due.toldAre(x, 4, 0, 2, 0, 0, 0);
    }

    /** HEARD and FALLS are held at 9999; LEGS come by hours AT 0. */
    private static void promise11held() {
        StairCourt x = Due.court(39);
        for (int i = 0; i < 5; i++) {
            x.person(999);
        }
        Due.text(x, 0, "0");
        for (int i = 0; i < 333; i++) {
            x.loose(30);
        }
        due("FALLS of 9990 hours", x.personIs(0, 3), 9990);
        due("HEARD is held", x.stepIs(0, 2), 9999);
        Due.sheet(x, 1, 8, new int[12]);
        due("CLIMB over the bound of FALLS", x.climb(0, 1, 2), 12);
        for (int i = 0; i < 12; i++) {
            x.say(0, 0);
        }
        due("FALLS are held", x.personIs(0, 3), 9999);
        due("loose tells of them all the same", x.loose(2), 10);
        Due.sheet(x, 0, 8, 0, 0, 0);
        due("CLIMB tells of them all the same", x.climb(0, 0, 2), 3);
        due("only thought", x.personIs(0, 3), 9999);
    }

    private static void promise12() {
        StairCourt x = Due.court(15, 30, 60);
        x.person(4);
        due("bribe", x.bribe(0), 15);
        due("at", x.personIs(0, 0), 1);
        due("paid", x.personIs(0, 2), 15);
        due("legs", x.personIs(0, 1), 3);
        due("not heard", x.stepIs(0, 2), 0);
        due("bribe SAME", x.bribe(0), 20);
        due("bribe MUTE", x.bribe(0), 0);
        due("paid all", x.personIs(0, 2), 35);
        due("UP", x.personIs(0, 4), 1);
        due("bribe UP", x.bribe(0), STATE);
        x.carry(0, 0);
        Due.text(x, 1, "b*10+s+k");
        due("held at 99", x.bribe(0), 99);
        x.carry(0, 1);
        due("no legs", x.bribe(0), STATE);
        x.rests(0, 2);
        Due.text(x, 1, "s-k");
        due("held at 0", x.bribe(0), 0);
        due("paid in the end", x.personIs(0, 2), 134);
        due("nobody", x.bribe(1), BEYOND);
        due("nobody -1", x.bribe(-1), BEYOND);
        Due.toldAre(x, 2, 0, 2, 0, 0, 0);
    }
}
