import java.lang.reflect.InvocationTargetException;
import java.lang.reflect.Method;
import java.nio.charset.StandardCharsets;
import java.util.ArrayList;
import java.util.Comparator;
import java.util.List;
import java.util.Random;

/** Runs of calls by fixed seeds, each made on DateHem and on Model; both must answer alike. */
final class RandomTests {
    private static final int RUNS = 1500;
    private static final int CALLS = 300;
    private static final String[] CHANGES = {"addTown", "addTraveller", "addLabel", "moveHem", "sew",
        "rip", "step", "walk", "pass", "undo", "saveState", "restoreState", "labelObstacle"};

    private final Random random;
    private final List<Method> methods;
    private DateHem hem;
    private Model model;
    private List<String> story;

    private RandomTests(long seed) {
        random = new Random(seed);
        methods = new ArrayList<>();
        for (Method method : DateHem.class.getDeclaredMethods()) {
            if (java.lang.reflect.Modifier.isPublic(method.getModifiers())) {
                methods.add(method);
            }
        }
        methods.sort(Comparator.comparing(Method::getName));
    }

    static void run() throws Exception {
        Check.part("random runs");
        for (int seed = 0; seed < RUNS; seed++) {
            if (!new RandomTests(seed).runOnce(seed)) {
                return;
            }
        }
    }

    private boolean runOnce(int seed) throws Exception {
        hem = new DateHem();
        model = new Model();
        story = new ArrayList<>();
        for (int n = 0; n < CALLS; n++) {
            int kind = random.nextInt(100);
            boolean alike;
            if (kind < 6) {
                alike = type(new TextMaker(random).description()) && call("readText");
            } else if (kind < 14) {
                alike = type(new TextMaker(random).script()) && call("runScript");
            } else if (kind < 30) {
                alike = type(new TextMaker(random).name());
            } else if (kind < 65) {
                alike = call(CHANGES[random.nextInt(CHANGES.length)]);
            } else {
                alike = call(methods.get(random.nextInt(methods.size())).getName());
            }
            if (!alike || hem.violations() != 0) {
                Check.fail("seed " + seed + ": " + story);
                return false;
            }
        }
        Check.due("seed " + seed, true, true);
        return true;
    }

    private boolean type(String text) throws Exception {
        boolean alike = call("truncate", 0);
        byte[] bytes = text.getBytes(StandardCharsets.ISO_8859_1);
        for (int i = 0; i < bytes.length; i += 20) {
            alike &= call("feed", Texts.four(bytes, i), Texts.four(bytes, i + 4),
                    Texts.four(bytes, i + 8), Texts.four(bytes, i + 12), Texts.four(bytes, i + 16));
        }
        story.add("\"" + text + "\"");
        return alike && call("truncate", bytes.length);
    }

    private boolean call(String name) throws Exception {
        for (Method method : methods) {
            if (method.getName().equals(name)) {
                Object[] arguments = new Object[method.getParameterCount()];
                for (int i = 0; i < arguments.length; i++) {
                    arguments[i] = argument(name, i);
                }
                return call(name, arguments);
            }
        }
        throw new IllegalStateException(name);
    }

    private int argument(String name, int place) {
        if (random.nextInt(60) == 0) {
            int[] odd = {-1, Integer.MIN_VALUE, Integer.MAX_VALUE, 360, 359, 600, 301, 241, 100, 12};
            return odd[random.nextInt(odd.length)];
        }
        boolean onMap = List.of("addTown", "addTraveller", "addLabel", "moveHem", "longitude",
                "dayAt", "hourAt", "labelAt", "hemObstacle", "labelObstacle").contains(name);
        if (name.equals("goreAt") || onMap && place == 1) {
            return random.nextInt(4) == 0 ? random.nextInt(360) : 120 + random.nextInt(130);
        }
        if (name.equals("pass")) {
            return 1 + random.nextInt(random.nextInt(5) == 0 ? 240 : 9);
        }
        if (name.equals("meridianAfter") && place == 1) {
            return random.nextInt(301);
        }
        if (name.equals("sew") && place == 1) {
            return 1 + random.nextInt(99);
        }
        if (name.equals("walk") && place == 2) {
            return random.nextInt(360);
        }
        if (name.equals("outputByte") || name.equals("truncate")) {
            return random.nextInt(40);
        }
        boolean isDirection = List.of("walk", "step", "stepObstacle").contains(name) && place == 1;
        return random.nextInt(isDirection ? 2 : onMap ? 9 : 4 + random.nextInt(8));
    }

    private boolean call(String name, Object... arguments) throws Exception {
        Object got = answer(hem, name, arguments);
        Object want = answer(model, name, arguments);
        story.add(name + List.of(arguments) + "=" + got);
        if (!got.equals(want)) {
            story.add("due is " + want);
            return false;
        }
        return true;
    }

    private static Object answer(Object on, String name, Object... arguments) throws Exception {
        Class<?>[] types = new Class<?>[arguments.length];
        java.util.Arrays.fill(types, int.class);
        Method method = on.getClass().getDeclaredMethod(name, types);
        try {
            return method.invoke(on, arguments);
        } catch (InvocationTargetException e) {
            return e.getCause().getClass();
        }
    }
}
