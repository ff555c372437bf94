import java.lang.reflect.InvocationTargetException;
import java.lang.reflect.Method;
import java.util.Arrays;
import java.util.HashMap;
import java.util.Map;
import java.util.Random;

/** Random runs of at most 512 calls, each call's answer or exception compared with the model's. */
public final class RandomRunsTest {
    private static final int RUNS = 1500;
    private static final int CALLS = 512;
    private static final String[] NAMES = {"a", "b", "ab", "ba", "abc", "early", "mid", "c", "zz", "midway", "lowest", "abcdefgh"};
    private static final String[] BEGINNINGS = {"early ", "mid ", "late ", "about ", "before ", "after "};
    private static final int[] EXTREMES = {Integer.MIN_VALUE, -10001, -10000, -2, -1, 0, 1, 6, 7, 8, 24, 25, 60, 61, 1001, 10000, 100001, Integer.MAX_VALUE};
    private static final Map<String, Method> METHODS = new HashMap<>();

    private final Random random;
    private final int run;
    private final TimeWords real = new TimeWords();
    private final Model model = new Model();
    private int calls = 0;

    private RandomRunsTest(int run) {
        this.run = run;
        this.random = new Random(1000L + run);
    }

    public static void main(String[] args) {
        for (int run = 0; run < RUNS; run++) {
            new RandomRunsTest(run).go();
        }
        Check.finish();
    }

    private void go() {
        while (calls < CALLS) {
            step();
        }
    }

    private void step() {
        switch (random.nextInt(19)) {
            case 0 -> call("unit", any(random.nextInt(32, 123)));
            case 1 -> call("clear");
            case 2 -> tellName();
            case 3 -> tellReign();
            case 4 -> tellPhase();
            case 5 -> call("width", any(random.nextInt(0, 60)));
            case 6, 7, 8 -> readSomething();
            case 9 -> makeSpan();
            case 10 -> call("end", someSpan(), any(random.nextInt(2)));
            case 11 -> call("open", someSpan(), any(random.nextInt(2)));
            case 12 -> call("join", someSpan(), someSpan());
            case 13 -> call("relations", someSpan(), someSpan());
            case 14 -> call("relation", someSpan(), someSpan());
            case 15 -> lookAtWord();
            case 16 -> lookForNear();
            case 17 -> call("feast", any(someYear()), any(random.nextInt(1, 13)), any(random.nextInt(7)), any(random.nextInt(-1, 6)));
            default -> call("regnal", someName(), any(random.nextInt(1, 120)));
        }
        call("count", any(random.nextInt(3)));
    }

    private void tellName() {
        type(random.nextInt(3) > 0 ? NAMES[random.nextInt(NAMES.length)] : letters());
        call("name");
    }

    private void tellReign() {
        int from = someYear();
        call("reign", someName(), any(from), any(random.nextInt(3) == 0 ? from + random.nextInt(5) : someYear()));
    }

    private void tellPhase() {
        int from = someYear();
        int to = random.nextInt(2) == 0 ? from + random.nextInt(40) : someYear();
        call("phase", someName(), any(random.nextInt(2)), any(from), any(to), any(someDay()));
    }

    private void readSomething() {
        StringBuilder text = new StringBuilder();
        for (int i = random.nextInt(4); i > 0; i--) {
            text.append(BEGINNINGS[random.nextInt(BEGINNINGS.length)]);
        }
        switch (random.nextInt(8)) {
            case 0, 1, 2 -> text.append(random.nextInt(1, 100)).append('c');
            case 3 -> text.append("0").append(random.nextInt(10)).append('c');
            case 4 -> text.append(letters());
            case 5 -> text.append(random.nextInt(200)).append(random.nextBoolean() ? "c" : " ");
            default -> text.append(NAMES[random.nextInt(NAMES.length)]);
        }
        type(text.toString());
        call("read", any(random.nextInt(2)), any(someDay()));
    }

    private void makeSpan() {
        int from = someYear();
        int to = from + random.nextInt(1, 120);
        if (random.nextBoolean()) {
            from = 100 * random.nextInt(99) + 1;
            to = from + 99;
        }
        call("span", any(from), any(to));
    }

    private void lookAtWord() {
        int span = someSpan();
        call("word", span, -1);
        call("word", span, any(random.nextInt(-1, 16)));
        call("word", span, any(random.nextInt(0, 3)));
    }

    private void lookForNear() {
        type(letters());
        call("near");
    }

    private String letters() {
        StringBuilder text = new StringBuilder();
        for (int i = random.nextInt(11); i > 0; i--) {
            text.append((char) ('a' + random.nextInt(random.nextInt(5) == 0 ? 26 : 3)));
        }
        return text.toString();
    }

    private void type(String text) {
        if (random.nextInt(6) > 0) {
            call("clear");
        }
        for (int i = 0; i < text.length(); i++) {
            call("unit", text.charAt(i));
        }
    }

    /** Mostly the number itself, at times one of the edges or one far out. */
    private int any(int usual) {
        return random.nextInt(60) == 0 ? EXTREMES[random.nextInt(EXTREMES.length)] : usual;
    }

    private int someName() {
        return any(model.count(1) == 0 ? 0 : random.nextInt(model.count(1)));
    }

    private int someSpan() {
        return any(model.count(2) == 0 ? 0 : random.nextInt(model.count(2)));
    }

    private int someDay() {
        return random.nextInt(4) == 0 ? random.nextInt(2) * 100000 : random.nextInt(5);
    }

    private int someYear() {
        return switch (random.nextInt(5)) {
            case 0 -> random.nextInt(-9999, 10000);
            case 1 -> 100 * random.nextInt(99) + 1;
            case 2 -> 100 * random.nextInt(100);
            case 3 -> random.nextBoolean() ? -9999 + random.nextInt(4) : 9999 - random.nextInt(4);
            default -> random.nextInt(-20, 500);
        };
    }

    private void call(String name, int... args) {
        if (calls >= CALLS) {
            return;
        }
        calls++;
        String told = "run " + run + ", call " + calls + ": " + name + Arrays.toString(args);
        Check.due(told, answer(real, name, args), answer(model, name, args));
    }

    private static String answer(Object object, String name, int[] args) {
        Method method = METHODS.computeIfAbsent(object.getClass().getName() + "." + name, key -> find(object.getClass(), name));
        Object[] boxed = Arrays.stream(args).boxed().toArray();
        try {
            return String.valueOf(method.invoke(object, boxed));
        } catch (InvocationTargetException e) {
            Throwable thrown = e.getCause();
            boolean strange = object instanceof TimeWords && !Check.isOwn(thrown);
            return (strange ? "by itself " : "") + "throws." + thrown.getClass().getSimpleName();
        } catch (IllegalAccessException e) {
            return "no access to " + name;
        }
    }

    private static Method find(Class<?> in, String name) {
        for (Method method : in.getDeclaredMethods()) {
            if (method.getName().equals(name)) {
                return method;
            }
        }
        throw new IllegalArgumentException(name);
    }
}
