import java.lang.reflect.InvocationTargetException;
import java.lang.reflect.Method;
import java.util.ArrayList;
import java.util.Arrays;
import java.util.Comparator;
import java.util.List;
import java.util.Random;

/** Long runs of calls, the same in every session, against the plain model of the document. */
public final class ModelTest {
    private static final int RUNS = 900;
    private static final int CALLS = 512;
    private static final List<String> CHANGES = List.of("insert", "move", "setLevel", "remove", "startAt", "reserve",
            "skip", "unskip", "setFormat", "setGoingOn", "freeze", "refer");
    /** How often each of the changes is called in a run of this kind. */
    private static final int[][] WEIGHTS = {
        {12, 4, 4, 3, 2, 2, 2, 1, 1, 1, 2, 2},
        {20, 1, 1, 1, 1, 1, 1, 0, 0, 0, 4, 1},
        {10, 6, 6, 6, 1, 1, 3, 3, 1, 6, 2, 2},
        {30, 2, 2, 8, 3, 3, 3, 1, 2, 4, 3, 4},
        {14, 8, 3, 5, 2, 4, 1, 1, 1, 1, 6, 1},
    };

    private final Random random;
    private final int[] weights;
    private final int deepest;
    private final NumberingTree tree = new NumberingTree();
    private final Model model = new Model();
    private final StringBuilder log = new StringBuilder();
    private final List<Method> questions = new ArrayList<>();

    private ModelTest(int run) {
        random = new Random(run);
        weights = WEIGHTS[run % WEIGHTS.length];
        deepest = 1 + random.nextInt(4);
        for (Method method : NumberingTree.class.getDeclaredMethods()) {
            boolean isFace = java.lang.reflect.Modifier.isPublic(method.getModifiers());
            if (isFace && !CHANGES.contains(method.getName())) {
                questions.add(method);
            }
        }
        // The machine tells methods in any order; the runs must be the same each time.
        questions.sort(Comparator.comparing(Method::getName));
    }

    public static void main(String[] args) throws ReflectiveOperationException {
        for (int run = 0; run < RUNS; run++) {
            new ModelTest(run).run();
        }
        Check.end("ModelTest");
    }

    private void run() throws ReflectiveOperationException {
        for (int call = 0; call < CALLS; call++) {
            Method method = random.nextInt(100) < 35 ? change() : questions.get(random.nextInt(questions.size()));
            Object[] arguments = arguments(method);
            Object due = answer(model, method, arguments);
            Object got = answer(tree, method, arguments);
            log.append(method.getName()).append(Arrays.toString(arguments)).append(' ').append(due).append('\n');
            Check.same("", got, due);
            if (!due.equals(got)) {
                System.out.println(log);
                return;
            }
        }
    }

    private static Object answer(Object on, Method method, Object[] arguments) throws ReflectiveOperationException {
        Method own = on.getClass().getMethod(method.getName(), method.getParameterTypes());
        try {
            return own.invoke(on, arguments);
        } catch (InvocationTargetException e) {
            return e.getCause().getClass().getName();
        }
    }

    private Method change() {
        int left = random.nextInt(Arrays.stream(weights).sum());
        int chosen = 0;
        while (left >= weights[chosen]) {
            left -= weights[chosen];
            chosen++;
        }
        for (Method method : NumberingTree.class.getDeclaredMethods()) {
            if (method.getName().equals(CHANGES.get(chosen))) {
                return method;
            }
        }
        throw new IllegalStateException(CHANGES.get(chosen));
    }

    private Object[] arguments(Method method) {
        switch (method.getName()) {
            case "insert":
                return list(near(model.size(), 12), level(0));
            case "move":
                return list(paragraph(), near(model.size(), 12));
            case "setLevel":
                return list(paragraph(), level(0));
            case "startAt":
                return list(paragraph(), random.nextInt(5) == 0 ? near(999, 9) : random.nextInt(30));
            case "reserve":
                return list(paragraph(), random.nextInt(4) == 0 ? near(20, 9) : random.nextInt(4));
            case "skip":
            case "unskip":
                return list(level(1), random.nextInt(5) == 0 ? near(99, 9) : 1 + random.nextInt(9));
            case "setFormat":
                return list(level(1), "dlrRdlrRx".charAt(random.nextInt(9)));
            case "setGoingOn":
                return list(level(1), random.nextBoolean());
            case "refer":
                return list(paragraph(), paragraph());
            case "paragraphAt":
                return list(near(model.size(), 9));
            case "labelAt":
                return list(paragraph(), near(7, 9));
            case "find":
                return list(level(1), random.nextInt(12));
            case "targetOf":
            case "isBroken":
            case "referenceLength":
                return list(near(model.references(), 9));
            case "referenceAt":
                return list(near(model.references(), 9), near(5, 9));
            case "count":
                return list("pfopfox".charAt(random.nextInt(7)));
            case "meanNumber":
                return list(level(1));
            default:
                return method.getParameterCount() == 0 ? new Object[0] : list(paragraph());
        }
    }

    private static Object[] list(Object... arguments) {
        return arguments;
    }

    /** From 0 to a bound, and now and then just or far beyond. */
    private int near(int bound, int seldom) {
        if (random.nextInt(seldom * 3) == 0) {
            int[] far = {-1, bound + 1, Integer.MAX_VALUE, Integer.MIN_VALUE, bound + 2};
            return far[random.nextInt(far.length)];
        }
        return random.nextInt(bound + 1);
    }

    private int level(int first) {
        return random.nextInt(40) == 0 ? (random.nextBoolean() ? first - 1 : 5)
                : first + random.nextInt(deepest + 1 - first);
    }

    private int paragraph() {
        boolean isAny = model.size() == 0 || random.nextInt(15) == 0;
        return isAny ? near(60, 3) : model.paragraphAt(random.nextInt(model.size()));
    }
}
