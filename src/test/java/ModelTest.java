import java.lang.reflect.InvocationTargetException;
import java.lang.reflect.Method;
import java.nio.charset.StandardCharsets;
import java.util.Arrays;
import java.util.HashMap;
import java.util.Map;
import java.util.Random;

/** Random runs of calls, each answered by BathBoats and by Model: every answer and every exception must be the same. */
public final class ModelTest {
    private static final int RUNS = 1500;
    private static final String[] PROPERTIES =
            {"boat", "x", "y", "weight", "strength", "wet", "state", "soap", "moves", "hits"};
    private static final String[] WORDS = {"bath", "level", "push", "wind", "drain", "tap", "boat", "soap", "wet",
        "many", "first", "not", "and", "or", "(", ")", "<", "=", ">", ";", "-", "x", "0", "1", "5", "10", "99", "100",
        "1000", "9999", "10000", "99999999999999999999", "A", "\u00e9", "\t", "bat", "boats"};

    private final Random random;
    private BathBoats real = new BathBoats();
    private Model model = new Model();
    private final StringBuilder log = new StringBuilder();

    private static final Map<String, Method> REAL = new HashMap<>();
    private static final Map<String, Method> MODEL = new HashMap<>();

    private ModelTest(long seed) {
        random = new Random(seed);
    }

    public static void main(String[] args) {
        for (Method m : BathBoats.class.getDeclaredMethods()) {
            if (java.lang.reflect.Modifier.isPublic(m.getModifiers())) REAL.put(m.getName(), m);
        }
        for (Method m : Model.class.getDeclaredMethods()) MODEL.put(m.getName(), m);
        for (int run = 0; run < RUNS; run++) {
            ModelTest test = new ModelTest(run);
            try {
                test.run(10 + run % 3 * 90);
            } catch (AssertionError e) {
                System.out.println("run " + run + ": " + e.getMessage() + "\n" + test.log);
                System.exit(1);
            }
        }
        System.out.println(RUNS + " random runs answered as the model does");
    }

    private void run(int calls) {
        text(bath(), "load", true);
        look();
        for (int i = 0; i < calls; i++) {
            int kind = random.nextInt(100);
            if (kind < 3) {
                text(bath(), "load", random.nextInt(5) > 0);
            } else if (kind < 13) {
                text(query(), "query", random.nextInt(6) > 0);
            } else if (kind < 50) {
                operate();
            } else if (kind < 95) {
                ask();
            } else {
                wild();
            }
            if (random.nextInt(20) == 0) look();
        }
        look();
    }

    private int upTo(int most) {
        return random.nextInt(most + 1);
    }

    private int between(int least, int most) {
        return least + random.nextInt(most - least + 1);
    }

    /** A number from just outside a range to just outside, mostly inside. */
    private int about(int least, int most) {
        int kind = random.nextInt(24);
        return kind == 0 ? least - 1 : kind == 1 ? most + 1 : kind == 2 ? least : kind == 3 ? most : between(least, most);
    }

    private int x() { return about(0, model.s.w - 1); }

    private int y() { return about(0, model.s.h - 1); }

    private int boat() { return about(0, Math.max(0, model.s.boats.size() - 1)); }

    private int drain() { return about(0, Math.max(0, model.s.drains.size() - 1)); }

    private int tap() { return about(0, Math.max(0, model.s.taps.size() - 1)); }

    private void operate() {
        switch (random.nextInt(16)) {
            case 0: call("addBoat", x(), y(), about(1, 99), random.nextBoolean() ? about(1, 30) : about(1, 999)); break;
            case 1: call("carry", boat(), x(), y()); break;
            case 2: call("pull", boat(), x(), y(), random.nextBoolean() ? about(0, 30) : about(0, 9999)); break;
            case 3: case 4: call("blow", boat(), about(-300, 300), about(-300, 300)); break;
            case 5: call("dry", boat()); break;
            case 6: call("setDrain", drain(), random.nextInt(3) == 0 ? 0 : about(0, 99)); break;
            case 7: call("setTap", tap(), about(0, 99)); break;
            case 8: call("dropSoap", x(), y(), about(1, 99)); break;
            case 9: call("wipe", x(), y()); break;
            case 10: call("setPush", about(0, 9)); break;
            case 11: call("setWind", about(-99, 99), about(-99, 99)); break;
            case 12: call("setLevel", about(0, 1000)); break;
            case 13: call("undo"); break;
            case 14: call(random.nextBoolean() ? "saveSnapshot" : "restoreSnapshot"); break;
            default: call("turn", random.nextInt(4) == 0 ? about(1, 200) : about(1, 8)); break;
        }
    }

    private void ask() {
        switch (random.nextInt(32)) {
            case 0: call("size", about(0, 14)); break;
            case 1: case 2: call("boat", boat(), about(0, 10)); break;
            case 3: call("drain", drain(), about(0, 5)); break;
            case 4: call("tap", tap(), about(0, 2)); break;
            case 5: call("soap", x(), y()); break;
            case 6: call("boatAt", x(), y()); break;
            case 7: call("afloat", about(0, 11)); break;
            case 8: call("ended", about(0, 5), about(0, 3)); break;
            case 9: call("flow", x(), y(), random.nextBoolean()); break;
            case 10: call("pushOn", boat(), random.nextBoolean()); break;
            case 11: call("strongest"); break;
            case 12: call("calm", x(), y(), random.nextInt(3) > 0 ? about(0, 30) : about(0, 9999)); break;
            case 13: call("nearest", drain()); break;
            case 14: call("softest"); break;
            case 15: call("driesOut", boat()); break;
            case 16: case 17: call("tow", boat(), x(), y()); break;
            case 18: case 19: call("towStep", boat(), x(), y()); break;
            case 20: call("endsIn", boat()); break;
            case 21: call("emptyIn"); break;
            case 22: call("boatIn", boat(), about(0, 10), about(0, 300)); break;
            case 23: call("afloatIn", about(0, 300)); break;
            case 24: if (random.nextInt(4) == 0) call("rescue", boat(), about(1, 99)); break;
            case 25: if (random.nextInt(4) == 0) call("refuge", boat()); break;
            case 26: call("plug"); break;
            case 27: call("softness"); break;
            case 28: call("afloatShare"); break;
            case 29: call("format", y()); break;
            case 30: call("formattedByte", about(0, 9)); break;
            default: call(random.nextBoolean() ? "undoCount" : "errorPosition"); break;
        }
    }

    /** Any method with any arguments. */
    private void wild() {
        int[] edges = {0, 1, -1, 2, 5, 10, 11, 12, 99, 100, 300, 301, 1000, 1001, Integer.MAX_VALUE, Integer.MIN_VALUE,
            Integer.MAX_VALUE / 11, Integer.MIN_VALUE / 11, 1 << 16, 1 << 30};
        String[] names = REAL.keySet().toArray(new String[0]);
        Arrays.sort(names);
        String name = names[random.nextInt(names.length)];
        if (name.equals("feed")) return;
        Class<?>[] types = REAL.get(name).getParameterTypes();
        Object[] arguments = new Object[types.length];
        for (int i = 0; i < types.length; i++) {
            arguments[i] = types[i] == boolean.class ? (Object) random.nextBoolean()
                    : (Object) edges[random.nextInt(edges.length)];
        }
        call(name, arguments);
    }

    private void look() {
        for (int i = -1; i <= 15; i++) call("size", i);
        for (int b = 0; b < model.s.boats.size(); b++) for (int i = -1; i <= 11; i++) call("boat", b, i);
        for (int d = 0; d < model.s.drains.size(); d++) for (int i = -1; i <= 6; i++) call("drain", d, i);
        for (int t = 0; t < model.s.taps.size(); t++) for (int i = -1; i <= 3; i++) call("tap", t, i);
        for (int i = 0; i <= model.s.ended.size(); i++) for (int w = -1; w <= 4; w++) call("ended", i, w);
        for (int i = -1; i <= 12; i++) call("afloat", i);
        for (int y = 0; y < model.s.h; y++) {
            call("format", y);
            for (int x = -1; x <= model.s.w; x++) {
                call("formattedByte", x);
                call("soap", x, y);
                call("boatAt", x, y);
                call("flow", x, y, true);
                call("flow", x, y, false);
            }
        }
        call("undoCount");
        call("errorPosition");
    }

    private void call(String name, Object... arguments) {
        String want = answer(MODEL.get(name), model, arguments);
        String got = answer(REAL.get(name), real, arguments);
        log.append(name).append(Arrays.toString(arguments)).append(" -> ").append(got).append('\n');
        if (!got.equals(want)) throw new AssertionError("the last answer should be " + want);
    }

    private static String answer(Method method, Object target, Object[] arguments) {
        try {
            return String.valueOf(method.invoke(target, arguments));
        } catch (InvocationTargetException e) {
            return e.getCause().getClass().getName();
        } catch (IllegalAccessException e) {
            return e.toString();
        }
    }

    private void text(String text, String reader, boolean whole) {
        log.append(text).append('\n');
        byte[] bytes = text.getBytes(StandardCharsets.ISO_8859_1);
        for (int i = 0; i < bytes.length; i += 20) {
            Object[] words = new Object[5];
            for (int w = 0; w < 5; w++) {
                int word = 0;
                for (int k = 0; k < 4; k++) {
                    int at = i + 4 * w + k;
                    word = word << 8 | (at < bytes.length ? bytes[at] & 255 : 32);
                }
                words[w] = word;
            }
            call("feed", words);
        }
        call(reader, whole ? bytes.length : between(-1, bytes.length + 25));
        call("errorPosition");
    }

    private String bath() {
        int w = between(3, 10);
        int h = between(3, 10);
        StringBuilder text = new StringBuilder("bath " + w + " " + h);
        if (random.nextInt(3) > 0) text.append(" level ").append(random.nextBoolean() ? 1000 : upTo(1000));
        if (random.nextInt(3) > 0) text.append(" push ").append(upTo(9));
        if (random.nextInt(3) > 0) text.append(" wind ").append(wind()).append(' ').append(wind());
        text.append(random.nextBoolean() ? ";" : " ;\n");
        int clauses = random.nextInt(24);
        boolean careless = random.nextInt(6) == 0;
        boolean[] source = new boolean[100];
        boolean[] boat = new boolean[100];
        int[] count = new int[3];
        for (int i = 0; i < clauses && text.length() < 640; i++) {
            int x = careless ? about(0, w - 1) : upTo(w - 1);
            int y = careless ? about(0, h - 1) : upTo(h - 1);
            int cell = Math.max(0, Math.min(99, w * y + x));
            int kind = random.nextInt(9);
            int sort = kind < 2 ? 0 : kind < 4 ? 1 : kind < 7 ? 2 : 3;
            if (!careless && (sort < 2 && (source[cell] || count[sort] == 5) || sort == 2 && (boat[cell] || count[2] == 12))) {
                continue;
            }
            if (sort < 3) count[sort]++;
            if (sort < 2) source[cell] = true;
            if (sort == 2) boat[cell] = true;
            String place = x + " " + y + " ";
            String rate = String.valueOf(random.nextInt(4) == 0 ? 0 : upTo(99));
            if (sort == 0) text.append("drain " + place + between(1, 99) + " " + rate);
            if (sort == 1) text.append("tap " + place + rate);
            if (sort == 2) {
                int strength = random.nextBoolean() ? between(1, 40) : between(1, 999);
                text.append("boat " + place + (random.nextBoolean() ? between(1, 9) : between(1, 99)) + " " + strength);
                if (random.nextInt(3) == 0) text.append(" wet " + (careless ? about(0, strength) : upTo(strength)));
            }
            if (sort == 3) text.append("soap " + place + between(1, 99));
            text.append(random.nextInt(5) == 0 ? " ; " : ";");
        }
        return random.nextInt(4) == 0 ? spoil(text.toString()) : text.toString();
    }

    private String wind() {
        return (random.nextBoolean() ? "-" : random.nextBoolean() ? "- " : "") + upTo(99);
    }

    private String spoil(String text) {
        if (text.isEmpty()) return text;
        int at = random.nextInt(text.length());
        int to = Math.min(text.length(), at + random.nextInt(4));
        String word = WORDS[random.nextInt(WORDS.length)];
        switch (random.nextInt(4)) {
            case 0: return text.substring(0, at);
            case 1: return text.substring(0, at) + " " + word + " " + text.substring(at);
            case 2: return text.substring(0, at) + word + text.substring(to);
            default: return text.substring(0, at) + text.substring(to);
        }
    }

    private String query() {
        String text = (random.nextBoolean() ? "many " : "first ") + test(random.nextInt(5));
        return random.nextInt(4) == 0 ? spoil(text) : text;
    }

    private String test(int depth) {
        int kind = depth == 0 ? 0 : random.nextInt(6);
        if (kind == 1) return "not " + test(depth - 1);
        if (kind == 2) return "(" + test(depth - 1) + ")";
        if (kind == 3) return test(depth - 1) + " and " + test(depth - 1);
        if (kind == 4) return test(depth - 1) + " or " + test(depth - 1);
        if (kind == 5 && random.nextInt(3) == 0) return "not (not not ( " + test(depth - 1) + "))";
        return value() + "<=>".charAt(random.nextInt(3)) + value();
    }

    private String value() {
        if (random.nextInt(3) > 0) return PROPERTIES[random.nextInt(PROPERTIES.length)];
        return String.valueOf(random.nextInt(3) == 0 ? about(0, 9999) : upTo(12)).replace("-1", "0012");
    }
}
