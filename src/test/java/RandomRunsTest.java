import java.lang.reflect.InvocationTargetException;
import java.lang.reflect.Method;
import java.util.ArrayList;
import java.util.Arrays;
import java.util.Comparator;
import java.util.List;
import java.util.Random;
import java.util.TreeMap;

/** Runs of 512 random calls (with fixed seeds), each answer compared with that of the Model. */
public final class RandomRunsTest {
    private static final int RUNS = 3000;
    private static final int CALLS = 512;
    private static final String NAMES = "abcdefghkx";
    private static final String FEW_NAMES = "aabbckx";

    private final Random random;
    private final TemplateScopes desk = new TemplateScopes();
    private final Model model = new Model();
    private final List<String> log = new ArrayList<>();
    private static final TreeMap<String, Integer> seen = new TreeMap<>();
    private static final List<Method> calls = faceInOrder();

    private RandomRunsTest(int seed) {
        random = new Random(seed);
    }

    private static List<Method> faceInOrder() {
        List<Method> methods = new ArrayList<>(Arrays.asList(TemplateScopes.class.getDeclaredMethods()));
        methods.removeIf(m -> !java.lang.reflect.Modifier.isPublic(m.getModifiers()));
        methods.sort(Comparator.comparing(Method::getName));
        return methods;
    }

    public static void main(String[] args) throws Exception {
        for (int seed = 0; seed < RUNS; seed++) {
            String wrong = new RandomRunsTest(seed).run();
            if (wrong != null) {
                System.out.println("seed " + seed + ": " + wrong);
                System.exit(1);
            }
        }
        boolean all = true;
        for (String need : new String[] {"fails 0", "fails 1", "fails 2", "fails 3", "fails 4",
                "fails 5", "fails 6", "places 5", "undo", "restore", "steps 200", "output 200"}) {
            if (!seen.containsKey(need)) {
                all = false;
                System.out.println("the runs never had: " + need);
            }
        }
        System.out.println(RUNS + " runs as the model has them: " + seen);
        if (!all) {
            System.exit(1);
        }
    }

    private String run() throws Exception {
        while (log.size() < CALLS) {
            int kind = random.nextInt(20);
            String wrong;
            if (kind < 5) {
                wrong = giveValue();
            } else if (kind < 9) {
                wrong = renderTemplate();
            } else {
                wrong = anyCall();
            }
            if (wrong == null) {
                wrong = call("digest");
            }
            if (wrong != null) {
                return wrong;
            }
        }
        return null;
    }

    private String giveValue() throws Exception {
        String wrong = write(text(24));
        return wrong != null ? wrong : call("takeTemplate", random.nextInt(random.nextBoolean() ? 3 : 8));
    }

    private String renderTemplate() throws Exception {
        String wrong = write(text(60));
        for (String name : new String[] {"wouldPrint", "wouldPrintByText", "wouldFail", "render"}) {
            wrong = wrong != null ? wrong : call(name);
        }
        if (wrong == null && model.isComplete()) {
            count("fails " + model.wouldFail());
            count("places " + model.failurePlaces());
            count("steps " + model.steps() / 100 * 100);
            count("output " + model.outputLength() / 100 * 100);
        }
        return wrong;
    }

    private String anyCall() throws Exception {
        Method method = calls.get(random.nextInt(calls.size()));
        if (method.getName().equals("append") && random.nextInt(4) > 0) {
            return null;
        }
        Integer[] arguments = new Integer[method.getParameterCount()];
        for (int i = 0; i < arguments.length; i++) {
            arguments[i] = argument();
        }
        count(method.getName());
        return call(method.getName(), arguments);
    }

    private int argument() {
        switch (random.nextInt(12)) {
            case 0:
                return random.nextInt();
            case 1:
                return random.nextBoolean() ? Integer.MIN_VALUE : Integer.MAX_VALUE;
            case 2:
                return random.nextInt(140) - 3;
            case 3:
                return "{}~".charAt(random.nextInt(3));
            default:
                return random.nextInt(10) - 1;
        }
    }

    private String write(String text) throws Exception {
        String wrong = call("clearTemplate");
        for (char c : text.toCharArray()) {
            wrong = wrong != null ? wrong : call("append", (int) c);
        }
        return wrong;
    }

    /** A template of at most so many characters, now and then with a fault. */
    private String text(int room) {
        StringBuilder text = new StringBuilder(list(1 + random.nextInt(room), 0));
        if (random.nextInt(8) == 0 && text.length() > 0) {
            text.setCharAt(random.nextInt(text.length()), (char) (33 + random.nextInt(94)));
        }
        if (random.nextInt(12) == 0 && text.length() > 0) {
            text.deleteCharAt(random.nextInt(text.length()));
        }
        return text.toString();
    }

    private String list(int room, int deep) {
        StringBuilder text = new StringBuilder();
        boolean dense = random.nextInt(3) > 0;
        while (text.length() < room && (dense || random.nextInt(5) > 0)) {
            String part = part(room - text.length(), deep);
            if (text.length() + part.length() > room) {
                break;
            }
            text.append(part);
        }
        return text.toString();
    }

    private String part(int room, int deep) {
        char name = random.nextInt(6) > 0 ? pick(FEW_NAMES) : pick(NAMES);
        switch (room < 5 ? random.nextInt(5) : random.nextInt(11)) {
            case 0:
                return String.valueOf(pick("0123yz!^*?=:abkx"));
            case 1:
                return "~" + (char) (33 + random.nextInt(94));
            case 2:
                return "{" + name + "}";
            case 3:
                return "{!" + name + "}";
            case 4:
            case 5:
                return "{^" + name + "}";
            case 6:
            case 7:
                return "{?" + name + ":" + list(room - 5, deep + 1) + "}";
            case 8:
                return "{=" + name + ":" + list(Math.min(room - 5, 12), deep + 1) + "}";
            default:
                return "{*" + name + ":" + list(room - 5, deep + 1) + "}";
        }
    }

    private char pick(String from) {
        return from.charAt(random.nextInt(from.length()));
    }

    private static void count(String what) {
        seen.merge(what, 1, Integer::sum);
    }

    /** Makes a call on both; returns what is wrong, or null. What a call behind the last one answers is free. */
    private String call(String name, Integer... arguments) throws Exception {
        if (log.size() >= CALLS) {
            return null;
        }
        Object got = answer(desk, name, arguments);
        Object want = answer(model, name, arguments);
        log.add(name + Arrays.toString(arguments) + " -> " + got);
        return got.equals(want) ? null : String.join("\n", log) + "\n due is " + want;
    }

    private static Object answer(Object object, String name, Integer[] arguments) throws Exception {
        Class<?>[] types = new Class<?>[arguments.length];
        Arrays.fill(types, int.class);
        Method method = object.getClass().getDeclaredMethod(name, types);
        try {
            return method.invoke(object, (Object[]) arguments);
        } catch (InvocationTargetException e) {
            return e.getCause().getClass().getName();
        }
    }
}
