import java.io.IOException;
import java.lang.management.ManagementFactory;
import java.lang.reflect.Constructor;
import java.lang.reflect.Field;
import java.lang.reflect.Method;
import java.lang.reflect.Modifier;
import java.nio.file.Files;
import java.nio.file.Path;
import java.util.ArrayList;
import java.util.Arrays;
import java.util.Collections;
import java.util.List;

/** The document's face, what of LANGUAGE.md can be looked for in the source, and the room that calls take. */
public final class LanguageTest extends Promise {
    private static final String[] FACE = {
        "int step int", "int stepIs int int", "int become int int", "int as int int", "int person int",
        "int personIs int int", "int rests int int", "int carry int int", "int content int int",
        "int say int int", "int bribe int", "int feed long int", "int text int", "int untell int",
        "int law int int int int", "int hours int", "int loose int", "int seed int", "int words int int",
        "int climb int int int", "int fewest int int", "int cheapest int int int", "long odds int int int",
        "int fits int int", "int voice int int int", "int body int", "int sheet int int int",
        "int put int int int", "int move int int int int int", "int carries int", "int judge int",
        "int image", "int restore", "int tell int", "int check", "int count int", "int told int",
    };
    private static final String[] FORBIDDEN = {
        "throw", "throws", "try", "catch", "finally", "synchronized", "assert", "volatile", "native", "enum",
        "Object", "Exception", "System\\.(?!arraycopy)\\w+", "\\w+Exact", "->", "::", "@\\w+", "instanceof",
    };

    public static void main(String[] args) throws IOException {
        face();
        members();
        source();
        room();
        Due.end("LanguageTest");
    }

    private static void face() {
        List<String> got = new ArrayList<>();
        for (Method method : StairCourt.class.getDeclaredMethods()) {
            if (Modifier.isPublic(method.getModifiers())) {
                StringBuilder text = new StringBuilder(method.getReturnType() + " " + method.getName());
                for (Class<?> type : method.getParameterTypes()) {
                    text.append(' ').append(type);
                }
                got.add(text.toString());
            }
        }
        List<String> want = new ArrayList<>(Arrays.asList(FACE));
        Collections.sort(got);
        Collections.sort(want);
        holds("the face is " + got, got.equals(want));
        holds("final", Modifier.isFinal(StairCourt.class.getModifiers()));
        Constructor<?>[] made = StairCourt.class.getDeclaredConstructors();
        holds("one constructor", made.length == 1 && made[0].getParameterCount() == 0);
    }

    private static void members() {
        List<String> names = new ArrayList<>();
        for (String call : FACE) {
            names.add(call.split(" ")[1]);
        }
        List<Class<?>> classes = new ArrayList<>(Arrays.asList(StairCourt.class.getDeclaredClasses()));
        for (Class<?> inside : classes) {
            holds(inside + " is static", Modifier.isStatic(inside.getModifiers()));
            holds(inside + " is private", Modifier.isPrivate(inside.getModifiers()));
        }
        holds("some twelve classes", classes.size() < 12);
        classes.add(StairCourt.class);
        for (Class<?> one : classes) {
            for (Method method : one.getDeclaredMethods()) {
                boolean open = Modifier.isPublic(method.getModifiers());
                holds(method + " has no public one's name", open || !names.contains(method.getName()));
                holds(method + " is private", open || one != StairCourt.class || Modifier.isPrivate(method.getModifiers()));
            }
            int own = 0;
            for (Field field : one.getDeclaredFields()) {
                boolean fixed = Modifier.isStatic(field.getModifiers());
                own += fixed ? 0 : 1;
                holds(field + " is final", !fixed || Modifier.isFinal(field.getModifiers()));
                holds(field + " is private", one != StairCourt.class || Modifier.isPrivate(field.getModifiers()));
            }
            holds(one + " has some twenty fields", own <= 20);
        }
    }

    private static void source() throws IOException {
        String source = Files.readString(Path.of("src/main/java/StairCourt.java"));
        String code = source.replaceAll("(?s)/\\*.*?\\*/", " ").replaceAll("//[^\n]*", " ")
                .replaceAll("\"[^\"]*\"", "\"\"").replaceAll("'[^']'", "' '");
        for (String word : FORBIDDEN) {
            String edge = Character.isLetter(word.charAt(0)) ? "\\b" : "";
            holds("no " + word, !java.util.regex.Pattern.compile(edge + word + edge).matcher(code).find());
        }
        List<String> imports = new ArrayList<>(Arrays.asList(source.split("\n")));
        imports.removeIf(line -> !line.startsWith("import"));
        holds("imports", imports.equals(List.of("import java.util.Arrays;")));
        holds("no package", !code.contains("package "));
        holds("signs below 128", source.chars().allMatch(c -> c < 128));
    }

    /** Calls make no objects: what a run takes is what its constructors make. */
    private static void room() {
        com.sun.management.ThreadMXBean bean =
                (com.sun.management.ThreadMXBean) ManagementFactory.getThreadMXBean();
        StairCourt x = Due.court(5, 12, 23, 34, 45, 56, 60);
        x.person(999);
        Due.sheet(x, 0, 8, 1, 2, 3);
        int rounds = 40;
        long ahead = 0;
        for (int i = 0; i < rounds; i++) {
            // What the machine itself makes at first is not counted.
            if (i == rounds / 2) {
                ahead = bean.getCurrentThreadAllocatedBytes();
            }
            allCalls(x);
        }
        long made = bean.getCurrentThreadAllocatedBytes() - ahead;
        holds("bytes made by " + rounds / 2 + " rounds: " + made, made < 1000);
    }

    private static void allCalls(StairCourt x) {
        Due.text(x, 0, "w>1|!(s+2)");
        Due.text(x, 1, "b+1*(");
        x.law(1, 4, 5, 6);
        x.content(0, 50);
        x.say(0, 50);
        x.bribe(0);
        x.loose(3);
        x.hours(1);
        x.words(2, 0);
        x.climb(0, 0, 0);
        x.fewest(0, -1);
        x.cheapest(0, 0, 0);
        x.odds(0, 4, 0);
        x.fits(0, 0);
        x.voice(4, 2, 5);
        x.body(0);
        x.sheet(1, 32, 24);
        x.put(1, 0, 5);
        x.move(1, 0, 1, 1, 20);
        x.carries(1);
        x.judge(1);
        x.image();
        x.restore();
        x.tell(5);
        x.check();
        x.untell(0);
        x.told(9);
    }

    private static void holds(String what, boolean is) {
        duty(what, is ? 1 : 0, true);
    }
}
