import java.util.ArrayList;
import java.util.List;

/**
 * The document told a second time, as plainly as can be and in other ways than the class: KINDS as
 * classes, ERRORS as exceptions, TEXTS read by splitting them, FAULTS by trying what could follow.
 */
final class Model {
    /** An ERROR LOW - k. */
    static final class Refused extends RuntimeException {
        private static final long serialVersionUID = 1;
        final int k;

        Refused(int k) {
            this.k = k;
        }
    }

    private static void ask(boolean right, int k) {
        if (!right) {
            throw new Refused(k);
        }
    }

    static class Voice {
        int k;
        int m;
        List<Integer> bodies = new ArrayList<>();

        int asks(int x) { bodies.add(10); return x + k; }
        int nods(int x) { bodies.add(11); return asks(x) * 2; }
        int echoes(int x) { bodies.add(12); return nods(x) - m; }
        int parts(int x) { bodies.add(13); ask(m != k, 6); return x / (m - k); }
    }

    static class StrictVoice extends Voice {
        @Override int asks(int x) { bodies.add(20); return super.asks(x) - 4; }
        @Override int parts(int x) { bodies.add(21); return super.parts(x) + nods(1); }
    }

    static class MildVoice extends Voice {
        @Override int nods(int x) { bodies.add(30); return 0 - super.nods(x); }
    }

    static class SameVoice extends Voice {
        @Override int echoes(int x) { bodies.add(40); return super.echoes(x / 2); }
    }

    static class DeafVoice extends StrictVoice {
        @Override int asks(int x) { bodies.add(50); return super.asks(x) * 3; }
        @Override int echoes(int x) { bodies.add(51); return super.echoes(x) ^ k; }
    }

    static class ChildVoice extends MildVoice {
        @Override int nods(int x) { bodies.add(60); return super.nods(x + 1); }
    }

    static class MuteVoice extends Voice {
        @Override int asks(int x) { bodies.add(70); return 9; }
        @Override int nods(int x) { bodies.add(71); return super.nods(x) + m; }
    }

    private static Voice voiceOf(int kind) {
        switch (kind) {
            case 0: return new Voice();
            case 1: return new StrictVoice();
            case 2: return new MildVoice();
            case 3: return new SameVoice();
            case 4: return new DeafVoice();
            case 5: return new ChildVoice();
            default: return new MuteVoice();
        }
    }

    /** Rows of ints alone, so that a copy is quickly made: {kind, m, heard} and {at, legs, paid, falls}. */
    static final class Things {
        List<int[]> judges = new ArrayList<>();
        List<int[]> people = new ArrayList<>();
        String[] texts = new String[2];
        String tape = "";
        List<Integer> waits = new ArrayList<>();
        int hour = 0;
        int z = 1;

        Things copy() {
            Things c = new Things();
            for (int[] judge : judges) {
                c.judges.add(judge.clone());
            }
            for (int[] person : people) {
                c.people.add(person.clone());
            }
            c.texts = texts.clone();
            c.tape = tape;
            c.waits = new ArrayList<>(waits);
            c.hour = hour;
            c.z = z;
            return c;
        }

        boolean nods(int s, int w, int kind) {
            int m = judges.get(s)[1];
            switch (kind) {
                case 0: return w >= m * 5;
                case 1: return nods(s, w, 0) && (w - m) % 3 == 0;
                case 2: return nods(s, w, 0) || w % 10 == m;
                case 3: return w == m * 7;
                case 4: return nods(s, w, 1) && hour % 24 >= 12;
                case 5: return nods(s, w, 2) && w < 90 - s;
                default: return nods(s, w, 0) && judges.get(s)[2] % 2 == 0;
            }
        }

        int gives(int use, int a, int b, int c) {
            int value = use == 0 ? 1 : a;
            if (texts[use] != null) {
                value = worth(texts[use], use == 0 ? "wsm" : "bsk", new int[] {a, b, c}, 0, 0);
            }
            return Math.min(use == 0 ? 1 : 99, Math.max(0, value));
        }

        boolean content(int s, int w) {
            return nods(s, w, judges.get(s)[0]) && gives(0, w, s, judges.get(s)[1]) == 1;
        }

        int wants(int s, int kind) {
            switch (kind) {
                case 0: return 10 + judges.get(s)[2] % 10;
                case 1: return wants(s, 0) + judges.get(s)[1];
                case 2: return wants(s, 0) / 2;
                case 3: return wants(s, 0) * 2;
                case 4: return wants(s, 1) + s;
                case 5: return wants(s, 2) - 1;
                default: return 0;
            }
        }

        int bribe(int s) {
            return gives(1, wants(s, judges.get(s)[0]), s, judges.get(s)[0]);
        }

        boolean canGo(int p) {
            return people.get(p)[0] != judges.size() && people.get(p)[1] != 0;
        }

        boolean say(int p, int w) {
            int[] one = people.get(p);
            int s = one[0];
            boolean content = content(s, w);
            if (judges.get(s)[2] < 9999) {
                judges.get(s)[2]++;
            }
            one[1]--;
            one[0] = content ? s + 1 : s > 2 ? s - 2 : 0;
            if (!content && one[3] < 9999) {
                one[3]++;
            }
            return content;
        }

        void anHour() {
            for (int[] one : people) {
                if (one[0] == one[0] / 5 * 5 && one[1] != 999) {
                    one[1]++;
                }
            }
            hour++;
        }
    }

    /** What a TEXT gives, read as what stands at a level (0 T .. 5 Q); null: it is none. */
    private static Integer worth(String text, String names, int[] by, int level, int open) {
        if (level == 5) {
            return worthOfLast(text, names, by, open);
        }
        String signs = new String[] {"|", "&", "<=>", "+-", "*/%"}[level];
        int depth = 0;
        for (int i = text.length() - 1; i >= 0; i--) {
            char c = text.charAt(i);
            depth += c == ')' ? 1 : c == '(' ? -1 : 0;
            if (depth == 0 && signs.indexOf(c) >= 0) {
                Integer left = worth(text.substring(0, i), names, by, level == 2 ? 3 : level, open);
                Integer right = worth(text.substring(i + 1), names, by, level + 1, open);
                return left == null || right == null ? null : Integer.valueOf(join(c, left, right));
            }
        }
        return worth(text, names, by, level + 1, open);
    }

    private static Integer worthOfLast(String text, String names, int[] by, int open) {
        if (text.matches("[0-9]{1,4}")) {
            return Integer.valueOf(text);
        }
        if (text.length() == 1 && names.contains(text)) {
            return by[names.indexOf(text)];
        }
        if (open < 5 && text.startsWith("!")) {
            Integer inner = worth(text.substring(1), names, by, 5, open + 1);
            return inner == null ? null : Integer.valueOf(inner == 0 ? 1 : 0);
        }
        if (open < 5 && text.startsWith("(") && text.endsWith(")")) {
            return worth(text.substring(1, text.length() - 1), names, by, 0, open + 1);
        }
        return null;
    }

    private static int join(char sign, int a, int b) {
        boolean right = false;
        switch (sign) {
            case '+': return a + b;
            case '-': return a - b;
            case '*': return a * b;
            case '/': return b == 0 ? 0 : (int) ((long) a / b);
            case '%': return b == 0 ? 0 : (int) ((long) a % b);
            case '|': right = a != 0 || b != 0; break;
            case '&': right = a != 0 && b != 0; break;
            case '<': right = a < b; break;
            case '=': right = a == b; break;
            default: right = a > b; break;
        }
        return right ? 1 : 0;
    }

    /** Whether some TEXT goes on with this. */
    private static boolean goesOn(String start, String names) {
        for (String end = ""; end.length() <= 5; end += ")") {
            if (worth(start + end, names, new int[3], 0, 0) != null
                    || worth(start + "1" + end, names, new int[3], 0, 0) != null) {
                return true;
            }
        }
        return false;
    }

    private Things t = new Things();
    private Things kept = null;
    private int images = 0;
    private List<Integer> trace = new ArrayList<>();
    private final int[][] sheets = new int[4][];
    private final int[] bits = new int[4];
    private final int[] told = new int[7];

    /** The answer to a call of that name with these numbers; word is what feed() has ahead of them. */
    long answer(String call, int[] a, long word) {
        try {
            return act(call, a, word);
        } catch (Refused refused) {
            told[refused.k]++;
            return -1000000000L - refused.k;
        }
    }

    private static boolean in(int v, int low, int high) {
        return low <= v && v <= high;
    }

    private int[] judge(int s) {
        ask(in(s, 0, t.judges.size() - 1), 1);
        return t.judges.get(s);
    }

    private int[] person(int p) {
        ask(in(p, 0, t.people.size() - 1), 1);
        return t.people.get(p);
    }

    private int[] row(int sheet) {
        ask(in(sheet, 0, 3), 1);
        ask(sheets[sheet] != null, 2);
        return sheets[sheet];
    }

    private long act(String call, int[] a, long word) {
        switch (call) {
            case "step":
                ask(in(a[0], 0, 69), 1);
                ask(t.judges.size() < 20, 4);
                t.judges.add(new int[] {a[0] / 10, a[0] % 10, 0});
                return t.judges.size() - 1;
            case "stepIs": {
                judge(a[0]);
                ask(in(a[1], 0, 3), 1);
                return a[1] == 3 ? t.bribe(a[0]) : judge(a[0])[a[1]];
            }
            case "become": {
                int[] judge = judge(a[0]);
                ask(in(a[1], 0, 69), 1);
                int was = judge[0];
                judge[0] = a[1] / 10;
                judge[1] = a[1] % 10;
                return was;
            }
            case "as": {
                int[] judge = judge(a[0]);
                ask(in(a[1], 0, 6), 1);
                ask(voiceOf(a[1]).getClass().isInstance(voiceOf(judge[0])), 5);
                return judge[1];
            }
            case "person":
                ask(in(a[0], 0, 999), 1);
                ask(t.people.size() < 5, 4);
                t.people.add(new int[] {0, a[0], 0, 0});
                return t.people.size() - 1;
            case "personIs": {
                int[] one = person(a[0]);
                ask(in(a[1], 0, 4), 1);
                return a[1] < 4 ? one[a[1]] : one[0] == t.judges.size() ? 1 : 0;
            }
            case "rests": {
                int[] one = person(a[0]);
                ask(in(a[1], 0, 999), 1);
                int were = one[1];
                one[1] = a[1];
                return were;
            }
            case "carry": {
                int[] one = person(a[0]);
                ask(in(a[1], 0, t.judges.size()), 1);
                int was = one[0];
                one[0] = a[1];
                return was;
            }
            case "content":
                judge(a[0]);
                ask(in(a[1], 0, 99), 1);
                return t.content(a[0], a[1]) ? 1 : 0;
            case "say":
                person(a[0]);
                ask(in(a[1], 0, 99), 1);
                ask(t.canGo(a[0]), 3);
                t.say(a[0], a[1]);
                return person(a[0])[0];
            case "bribe": {
                int[] one = person(a[0]);
                ask(t.canGo(a[0]), 3);
                int given = t.bribe(one[0]);
                one[2] = Math.min(99999, one[2] + given);
                one[1]--;
                one[0]++;
                return given;
            }
            default:
                return actOfTexts(call, a, word);
        }
    }

    private long actOfTexts(String call, int[] a, long word) {
        switch (call) {
            case "feed":
                ask(in(a[0], 1, 8), 1);
                ask(t.tape.length() + a[0] <= 60, 4);
                for (int i = 0; i < a[0]; i++) {
                    t.tape += (char) (word >> 8 * i & 255);
                }
                return t.tape.length();
            case "text": {
                ask(in(a[0], 0, 1), 1);
                String tape = t.tape;
                String names = a[0] == 0 ? "wsm" : "bsk";
                t.tape = "";
                if (worth(tape, names, new int[3], 0, 0) != null) {
                    t.texts[a[0]] = tape;
                    return 1;
                }
                int fault = 0;
                while (fault < tape.length() && goesOn(tape.substring(0, fault + 1), names)) {
                    fault++;
                }
                return -10 - fault;
            }
            case "untell": {
                ask(in(a[0], 0, 1), 1);
                boolean was = t.texts[a[0]] != null;
                t.texts[a[0]] = null;
                return was ? 1 : 0;
            }
            case "law":
                ask(in(a[0], 0, 1), 1);
                return t.gives(a[0], a[1], a[2], a[3]);
            case "hours":
                ask(in(a[0], 1, 48), 1);
                ask(t.hour + a[0] <= 9999, 3);
                for (int i = 0; i < a[0]; i++) {
                    t.anHour();
                }
                return t.hour;
            case "loose": {
                ask(in(a[0], 1, 30), 1);
                ask(t.hour + a[0] <= 9999, 3);
                int fell = 0;
                for (int i = 0; i < a[0]; i++) {
                    for (int p = 0; p < t.people.size(); p++) {
                        if (t.canGo(p)) {
                            t.z = t.z * 1103515245 + 12345;
                            fell += t.say(p, (t.z >>> 8) % 100) ? 0 : 1;
                        }
                    }
                    t.anHour();
                }
                return fell;
            }
            case "seed": {
                int was = t.z;
                t.z = a[0];
                return was;
            }
            default:
                return actOfThoughts(call, a);
        }
    }

    private List<Integer> wordsOf(int s) {
        List<Integer> words = new ArrayList<>();
        for (int w = 0; w < 100; w++) {
            if (t.content(s, w)) {
                words.add(w);
            }
        }
        return words;
    }

    private long actOfThoughts(String call, int[] a) {
        switch (call) {
            case "words": {
                judge(a[0]);
                ask(in(a[1], 0, 1), 1);
                List<Integer> words = wordsOf(a[0]);
                ask(a[1] == 0 || !words.isEmpty(), 2);
                return a[1] == 0 ? words.size() : words.get(0);
            }
            case "climb": {
                person(a[0]);
                ask(in(a[1], 0, 3) && in(a[2], 0, 2), 1);
                int[] row = row(a[1]);
                for (int w : row) {
                    ask(in(w, 0, 99), 3);
                }
                Things c = t.copy();
                int said = 0;
                int contented = 0;
                for (int w : row) {
                    if (c.canGo(a[0])) {
                        contented += c.say(a[0], w) ? 1 : 0;
                        said++;
                    }
                }
                return a[2] == 0 ? c.people.get(a[0])[0] : a[2] == 1 ? said : said - contented;
            }
            case "fewest": {
                int at = person(a[0])[0];
                ask(in(a[1], -1, 2), 1);
                List<Integer> words = fewest(at);
                ask(words != null, 2);
                return a[1] == -1 ? words.size() : a[1] < words.size() ? words.get(a[1]) : -1;
            }
            case "cheapest": {
                int at = person(a[0])[0];
                ask(in(a[1], 0, 3) && in(a[2], 0, 1), 1);
                int[] row = row(a[1]);
                int sum = 0;
                int whose = 0;
                for (int s = at; s < t.judges.size(); s++) {
                    boolean content = false;
                    for (int w : row) {
                        content |= in(w, 0, 99) && t.content(s, w);
                    }
                    sum += content ? 0 : t.bribe(s);
                    whose += content ? 0 : 1 << s;
                }
                return a[2] == 0 ? sum : whose;
            }
            case "odds": {
                int at = person(a[0])[0];
                ask(in(a[1], 0, 4) && in(a[2], 0, 1), 1);
                java.math.BigInteger above = java.math.BigInteger.ONE;
                java.math.BigInteger below = java.math.BigInteger.ONE;
                for (int s = at; s < at + a[1] && s < t.judges.size(); s++) {
                    above = above.multiply(java.math.BigInteger.valueOf(wordsOf(s).size()));
                    below = below.multiply(java.math.BigInteger.valueOf(100));
                }
                java.math.BigInteger shared = above.gcd(below);
                return (a[2] == 0 ? above : below).divide(shared).longValueExact();
            }
            case "fits": {
                ask(in(a[0], 0, 3) && in(a[1], 0, 1), 1);
                int[] row = row(a[0]);
                List<Integer> words = new ArrayList<>();
                for (int w = 0; w < 100; w++) {
                    boolean so = row.length <= t.judges.size();
                    for (int s = 0; so && s < row.length; s++) {
                        so = row[s] == (t.content(s, w) ? 1 : 0);
                    }
                    if (so) {
                        words.add(w);
                    }
                }
                ask(a[1] == 0 || !words.isEmpty(), 2);
                return a[1] == 0 ? words.size() : words.get(0);
            }
            default:
                return actOfSheets(call, a);
        }
    }

    /** By trying all sets of three at most, the small ones first; null if none does. */
    private List<Integer> fewest(int at) {
        boolean[][] content = new boolean[100][20];
        for (int w = 0; w < 100; w++) {
            for (int s = at; s < t.judges.size(); s++) {
                content[w][s] = t.content(s, w);
            }
        }
        if (doAll(at, content)) {
            return List.of();
        }
        for (int a = 0; a < 100; a++) {
            if (doAll(at, content, a)) {
                return List.of(a);
            }
        }
        for (int a = 0; a < 100; a++) {
            for (int b = a + 1; b < 100; b++) {
                if (doAll(at, content, a, b)) {
                    return List.of(a, b);
                }
            }
        }
        for (int a = 0; a < 100; a++) {
            for (int b = a + 1; b < 100; b++) {
                for (int c = b + 1; c < 100; c++) {
                    if (doAll(at, content, a, b, c)) {
                        return List.of(a, b, c);
                    }
                }
            }
        }
        return null;
    }

    private boolean doAll(int at, boolean[][] content, int... words) {
        for (int s = at; s < t.judges.size(); s++) {
            boolean one = false;
            for (int w : words) {
                one |= content[w][s];
            }
            if (!one) {
                return false;
            }
        }
        return true;
    }

    private long actOfSheets(String call, int[] a) {
        switch (call) {
            case "voice": {
                int[] judge = judge(a[0]);
                ask(in(a[1], 0, 3), 1);
                Voice voice = voiceOf(judge[0]);
                voice.k = a[0];
                voice.m = judge[1];
                // Ahead of the VOICE: one that is refused as PARTED has begun its BODIES.
                trace = voice.bodies;
                int x = a[2];
                return a[1] == 0 ? voice.asks(x) : a[1] == 1 ? voice.nods(x)
                        : a[1] == 2 ? voice.echoes(x) : voice.parts(x);
            }
            case "body":
                ask(in(a[0], 0, trace.size() - 1), 2);
                return trace.get(a[0]);
            case "sheet":
                ask(in(a[0], 0, 3) && List.of(0, 8, 16, 32).contains(a[1]), 1);
                ask(a[1] == 0 || a[2] >= 0, 3);
                ask(a[1] == 0 || a[2] <= 24, 1);
                sheets[a[0]] = a[1] == 0 ? null : new int[a[2]];
                bits[a[0]] = a[1];
                return 1;
            case "put": {
                int[] row = row(a[0]);
                ask(in(a[1], 0, row.length - 1), 1);
                row[a[1]] = bits[a[0]] == 8 ? (byte) a[2] : bits[a[0]] == 16 ? (short) a[2] : a[2];
                return 1;
            }
            case "move": {
                ask(in(a[0], 0, 3) && in(a[2], 0, 3), 1);
                int[] from = row(a[0]).clone();
                int[] to = row(a[2]);
                ask(bits[a[0]] == bits[a[2]], 5);
                ask(a[1] >= 0 && a[3] >= 0 && a[4] >= 0, 1);
                ask((long) a[1] + a[4] <= from.length && (long) a[3] + a[4] <= to.length, 1);
                for (int n = 0; n < a[4]; n++) {
                    to[a[3] + n] = from[a[1] + n];
                }
                return a[4];
            }
            case "carries": {
                int many = 0;
                for (int s : row(a[0])) {
                    if (many == t.people.size() || !in(s, 0, t.judges.size())) {
                        break;
                    }
                    t.people.get(many++)[0] = s;
                }
                return many;
            }
            case "judge": {
                int many = 0;
                for (int s : row(a[0])) {
                    if (many == t.people.size() || t.people.get(many)[0] != s) {
                        break;
                    }
                    many++;
                }
                return many;
            }
            default:
                return actOfImages(call, a);
        }
    }

    private long actOfImages(String call, int[] a) {
        switch (call) {
            case "image":
                kept = t.copy();
                return ++images;
            case "restore":
                ask(kept != null, 2);
                t = kept.copy();
                return t.hour;
            case "tell":
                ask(t.waits.size() < 24, 4);
                t.waits.add(a[0]);
                return t.waits.size();
            case "check": {
                List<Integer> waits = t.waits;
                t.waits = new ArrayList<>();
                for (int i = 0; i < waits.size(); i++) {
                    if (i >= t.people.size() || t.people.get(i)[1] != waits.get(i)) {
                        return 1 + i;
                    }
                }
                return 0;
            }
            case "count":
                ask(in(a[0], 0, 6), 1);
                return new int[] {t.judges.size(), t.people.size(), t.hour, t.tape.length(),
                    t.waits.size(), trace.size(), t.z}[a[0]];
            case "told":
                ask(in(a[0], 1, 6), 1);
                return told[a[0]];
            default:
                throw new IllegalArgumentException(call);
        }
    }
}
