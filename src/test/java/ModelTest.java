import java.util.ArrayList;
import java.util.List;
import java.util.Random;

/**
 * Runs of 512 calls by draws (from fixed seeds), each answer held against Model's; most numbers are in
 * their ranges or at their edges, some are far out.
 */
public final class ModelTest {
    private static final int RUNS = 1500;
    private static final int CALLS = 512;
    private static final String[] OFTEN = {
        "step", "person", "say", "say", "say", "bribe", "rests", "carry", "become", "phrase", "phrase",
        "put", "put", "put", "putWord", "putBit", "sheet", "content", "climb", "fewest", "cheapest",
        "odds", "fits", "loose", "hours", "image", "restore", "tell", "tellRight", "check", "voice",
    };
    private static final String[] ALL = {
        "step", "stepIs", "become", "as", "person", "personIs", "rests", "carry", "content", "say", "bribe",
        "feed", "text", "untell", "law", "hours", "loose", "seed", "words", "climb", "fewest", "cheapest",
        "odds", "fits", "voice", "body", "sheet", "put", "move", "carries", "judge", "image", "restore",
        "tell", "check", "count", "told",
    };

    private final Random random;
    private final StairCourt court = new StairCourt();
    private final Model model = new Model();
    private final List<String> calls = new ArrayList<>();
    private final int far;
    private boolean same = true;

    private ModelTest(long seed) {
        random = new Random(seed);
        far = 3 + random.nextInt(60);
    }

    public static void main(String[] args) {
        int wrong = 0;
        for (int run = 0; run < RUNS && wrong < 3; run++) {
            ModelTest test = new ModelTest(run);
            test.run();
            if (!test.same) {
                wrong++;
                System.out.println("run " + run + ":");
                test.calls.forEach(System.out::println);
            }
        }
        System.out.println("ModelTest: " + RUNS + " runs, " + wrong + " wrong");
        if (wrong != 0) {
            System.exit(1);
        }
    }

    private void run() {
        int steps = random.nextInt(21);
        for (int i = 0; i < steps; i++) {
            call("step", random.nextInt(70));
        }
        for (int i = random.nextInt(6); i > 0; i--) {
            call("person", random.nextInt(3) == 0 ? random.nextInt(1000) : random.nextInt(12));
        }
        while (same && calls.size() < CALLS) {
            String name = random.nextInt(3) == 0 ? ALL[random.nextInt(ALL.length)] : OFTEN[random.nextInt(OFTEN.length)];
            draw(name);
        }
    }

    private void draw(String name) {
        switch (name) {
            case "step": call(name, r(0, 69)); break;
            case "become": call(name, r(0, 19), r(0, 69)); break;
            case "stepIs": call(name, r(0, 19), r(0, 3)); break;
            case "as": call(name, r(0, 19), r(0, 6)); break;
            case "person": call(name, r(0, 999)); break;
            case "personIs": call(name, p(), r(0, 4)); break;
            case "rests": call(name, p(), random.nextBoolean() ? r(0, 999) : r(0, 8)); break;
            case "carry": call(name, p(), r(0, 20)); break;
            case "content": call(name, r(0, 19), r(0, 99)); break;
            case "say": call(name, p(), r(0, 99)); break;
            case "bribe": call(name, p()); break;
            case "feed": feed(random.nextLong(), r(1, 8)); break;
            case "phrase": phrase(); break;
            case "text": case "untell": call(name, r(0, 1)); break;
            case "law": call(name, r(0, 1), any(), any(), any()); break;
            case "hours": call(name, r(1, 48)); break;
            case "loose": call(name, r(1, 30)); break;
            case "seed": call(name, any()); break;
            case "words": call(name, r(0, 19), r(0, 1)); break;
            case "climb": call(name, p(), r(0, 3), r(0, 2)); break;
            case "fewest": call(name, p(), r(-1, 2)); break;
            case "cheapest": call(name, p(), r(0, 3), r(0, 1)); break;
            case "odds": call(name, p(), r(0, 4), r(0, 1)); break;
            case "fits": call(name, r(0, 3), r(0, 1)); break;
            default: drawMore(name);
        }
    }

    private void drawMore(String name) {
        switch (name) {
            case "voice": call(name, r(0, 19), r(0, 3), any()); break;
            case "body": call(name, r(0, 6)); break;
            case "sheet": call(name, r(0, 3), 8 * (1 << random.nextInt(3)) * (random.nextInt(9) == 0 ? 0 : 1), r(0, random.nextBoolean() ? 24 : 5)); break;
            case "put": call(name, r(0, 3), r(0, 7), random.nextBoolean() ? r(0, 20) : any()); break;
            case "putWord": call("put", r(0, 3), r(0, 7), r(0, 99)); break;
            case "putBit": call("put", r(0, 3), r(0, 7), r(0, 1)); break;
            case "move": call(name, r(0, 3), r(0, 7), r(0, 3), r(0, 7), r(0, 4)); break;
            case "tell": call(name, any()); break;
            case "tellRight": tellRight(); break;
            case "count": call(name, r(0, 6)); break;
            case "told": call(name, r(1, 6)); break;
            case "carries": case "judge": call(name, r(0, 3)); break;
            default: call(name);
        }
    }

    /** Tells the legs of some of PEOPLE as they are. */
    private void tellRight() {
        call("check");
        for (int i = random.nextInt(6); i >= 0; i--) {
            call("tell", (int) call("personIs", i, 1));
        }
        call("check");
    }

    /** A number from a range; seldom one beside it, or one far out. */
    private int r(int low, int high) {
        int drawn = random.nextInt(far);
        if (drawn == 0) {
            return random.nextBoolean() ? low - 1 : high + 1;
        }
        if (drawn == 1 && random.nextInt(3) == 0) {
            return any();
        }
        return low + random.nextInt(high - low + 1);
    }

    private int p() {
        return random.nextInt(3) == 0 ? r(0, 4) : r(0, 1);
    }

    private int any() {
        switch (random.nextInt(6)) {
            case 0: return Integer.MIN_VALUE + random.nextInt(2);
            case 1: return Integer.MAX_VALUE - random.nextInt(2);
            case 2: return random.nextInt();
            default: return random.nextInt(41) - 20;
        }
    }

    /** A text by draws, mostly right, fed and told. */
    private void phrase() {
        int use = random.nextInt(2);
        call("text", use);
        StringBuilder text = new StringBuilder();
        draft(text, use, 3);
        int faults = random.nextInt(3);
        for (int i = 0; i < faults && text.length() > 0; i++) {
            String signs = "wsmbk0123456789!()+-*/%<=>&| \u00e9";
            int at = random.nextInt(text.length());
            char sign = signs.charAt(random.nextInt(signs.length()));
            switch (random.nextInt(3)) {
                case 0: text.setCharAt(at, sign); break;
                case 1: text.insert(at, sign); break;
                default: text.deleteCharAt(at); break;
            }
        }
        for (int i = 0; i < text.length(); i += 8) {
            long word = 0;
            int n = Math.min(8, text.length() - i);
            for (int j = 0; j < n; j++) {
                word |= (long) text.charAt(i + j) << 8 * j;
            }
            feed(word, n);
        }
        call("text", use);
        call("law", use, any(), any(), any());
        call("law", use, r(0, 99), r(0, 19), r(0, 9));
    }

    private void draft(StringBuilder text, int use, int depth) {
        int drawn = random.nextInt(depth <= 0 ? 4 : 10);
        if (drawn < 2) {
            text.append(random.nextInt(random.nextBoolean() ? 10 : 10000));
        } else if (drawn < 4) {
            text.append((use == 0 ? "wsm" : "bsk").charAt(random.nextInt(3)));
        } else if (drawn == 4) {
            text.append('!');
            draft(text, use, depth - 1);
        } else if (drawn == 5) {
            text.append('(');
            draft(text, use, depth - 1);
            text.append(')');
        } else {
            draft(text, use, depth - 1);
            text.append("+-*/%<=>&|".charAt(random.nextInt(10)));
            draft(text, use, depth - 1);
        }
    }

    private void feed(long word, int n) {
        if (calls.size() >= CALLS) {
            return;
        }
        compare("feed(" + word + "L, " + n + ")", court.feed(word, n), model.answer("feed", new int[] {n}, word));
    }

    /** The answer; the 512th call is the last one that is made. */
    private long call(String name, int... a) {
        if (calls.size() >= CALLS) {
            return 0;
        }
        StringBuilder text = new StringBuilder(name).append('(');
        for (int i = 0; i < a.length; i++) {
            text.append(i == 0 ? "" : ", ").append(a[i]);
        }
        long got = courtAnswers(name, a);
        compare(text.append(')').toString(), got, model.answer(name, a, 0));
        return got;
    }

    private void compare(String call, long got, long want) {
        if (same) {
            calls.add(call + " " + got);
            if (got != want) {
                same = false;
                calls.add("  due is " + want);
            }
        }
    }

    private long courtAnswers(String name, int[] a) {
        switch (name) {
            case "step": return court.step(a[0]);
            case "stepIs": return court.stepIs(a[0], a[1]);
            case "become": return court.become(a[0], a[1]);
            case "as": return court.as(a[0], a[1]);
            case "person": return court.person(a[0]);
            case "personIs": return court.personIs(a[0], a[1]);
            case "rests": return court.rests(a[0], a[1]);
            case "carry": return court.carry(a[0], a[1]);
            case "content": return court.content(a[0], a[1]);
            case "say": return court.say(a[0], a[1]);
            case "bribe": return court.bribe(a[0]);
            case "text": return court.text(a[0]);
            case "untell": return court.untell(a[0]);
            case "law": return court.law(a[0], a[1], a[2], a[3]);
            case "hours": return court.hours(a[0]);
            case "loose": return court.loose(a[0]);
            case "seed": return court.seed(a[0]);
            case "words": return court.words(a[0], a[1]);
            case "climb": return court.climb(a[0], a[1], a[2]);
            case "fewest": return court.fewest(a[0], a[1]);
            case "cheapest": return court.cheapest(a[0], a[1], a[2]);
            case "odds": return court.odds(a[0], a[1], a[2]);
            case "fits": return court.fits(a[0], a[1]);
            case "voice": return court.voice(a[0], a[1], a[2]);
            case "body": return court.body(a[0]);
            case "sheet": return court.sheet(a[0], a[1], a[2]);
            case "put": return court.put(a[0], a[1], a[2]);
            case "move": return court.move(a[0], a[1], a[2], a[3], a[4]);
            case "carries": return court.carries(a[0]);
            case "judge": return court.judge(a[0]);
            case "image": return court.image();
            case "restore": return court.restore();
            case "tell": return court.tell(a[0]);
            case "check": return court.check();
            case "count": return court.count(a[0]);
            case "told": return court.told(a[0]);
            default: throw new IllegalArgumentException(name);
        }
    }
}
