import java.lang.reflect.InvocationTargetException;
import java.lang.reflect.Method;
import java.util.ArrayList;
import java.util.Arrays;
import java.util.HashMap;
import java.util.List;
import java.util.Map;

/** Promises 1 to 23: runs of calls of all sorts, each answered by the program and by the Model. */
final class RandomRunsTest {
    private static final int RUNS = 600;
    private static final int CALLS = 512;
    private static final int[] EXTREMES = {-1, Integer.MIN_VALUE, Integer.MAX_VALUE, 1 << 31 - 1, 64, 256};

    private final Map<String, Method> ofProgram = methods(CachehallDesk.class);
    private final Map<String, Method> ofModel = methods(Model.class);
    private final Map<String, Integer> seen = new HashMap<>();
    private final List<String> calls = new ArrayList<>();
    private final CachehallDesk program = new CachehallDesk();
    private final Model model = new Model();
    private long seed;

    private RandomRunsTest(long seed) {
        this.seed = seed;
    }

    public static void main(String[] args) throws IllegalAccessException {
        Map<String, Integer> seen = new HashMap<>();
        for (int run = 0; run < RUNS; run++) {
            RandomRunsTest one = new RandomRunsTest(1000003L * run + 17);
            if (!one.isAsDue()) {
                System.exit(1);
            }
            one.seen.forEach((what, times) -> seen.merge(what, times, Integer::sum));
        }
        // A test that never came to these would be worth little.
        String[] needed = {"build refused", "recheck refused", "recheck 0", "recheck 1", "recheck 2", "full",
            "wrong", "out changed", "poisoned", "wouldRun -1", "wouldBeWrong true", "quota went"};
        for (String what : needed) {
            if (seen.getOrDefault(what, 0) < 20) {
                System.out.println("the runs hardly ever come to: " + what + " " + seen);
                System.exit(1);
            }
        }
    }

    private static Map<String, Method> methods(Class<?> kind) {
        Map<String, Method> found = new HashMap<>();
        for (Method method : kind.getDeclaredMethods()) {
            method.setAccessible(true);
            found.put(method.getName(), method);
        }
        return found;
    }

    private int below(int bound) {
        seed = seed * 6364136223846793005L + 1442695040888963407L;
        return (int) ((seed >>> 33) % bound);
    }

    private int subset(int bits) {
        return below(1 << bits) & below(1 << bits);
    }

    private boolean isAsDue() throws IllegalAccessException {
        int kind = below(6);
        int contents = 1 + below(3);
        // In some runs much is there from the start, so that the cache comes to be full.
        int ready = below(3) * 5;
        boolean fine = true;
        for (int n = 0; n < ready && fine; n++) {
            fine = addAction();
        }
        // A step takes five calls at the most, and digest() is the last one.
        while (fine && calls.size() + 5 < CALLS) {
            fine = step(kind, contents);
        }
        return fine && same("digest");
    }

    private boolean step(int kind, int contents) throws IllegalAccessException {
        int pick = below(100);
        int entries = Math.max(1, model.many(3));
        int entry = below(3) == 0 ? entries - 1 - below(Math.min(entries, 5)) : below(entries);
        int action = below(Math.max(1, model.many(0)));
        int team = below(Math.max(1, model.many(2)));
        int worker = below(Math.max(1, model.many(1)));
        if (pick < 3) {
            return addAction();
        } else if (pick < 6) {
            return same("worker", kind < 2 ? below(3) * below(4) : below(3) == 0 ? below(10) : 0);
        } else if (pick < 8) {
            return same("team", kind % 2 == 0 ? below(101) : 60 + below(41));
        } else if (pick < 14) {
            return same("file", below(8), below(contents));
        } else if (pick < 20) {
            return same("set", below(6), below(contents));
        } else if (pick < 23) {
            return same("check", kind == 5 ? 0 : below(10) < 8 ? 1 + below(3) : below(10));
        } else if (pick < 26) {
            return same("mend", worker, below(2) * below(10));
        } else if (pick < 28) {
            return same("quota", team, kind % 2 == 0 ? below(101) : 50 + below(51));
        } else if (pick < 60) {
            return below(4) == 0 ? allOfBuild(team, action) : same("build", team, action);
        } else if (pick < 68) {
            return same("recheck", entry);
        } else if (pick < 70) {
            return same("ofEntry", entry, below(8)) && same("ofAction", action, below(8));
        } else if (pick < 72) {
            return same("ofWorker", worker, below(5)) && same("ofTeam", team, below(5));
        } else if (pick < 76) {
            return same("from", entry, action) && same("many", below(10)) && same("hitShare");
        } else if (pick < 80) {
            return same("wouldRun", team, action) && same("wouldBeWrong", team, action);
        } else if (pick < 84) {
            return same("touched", below(8)) && same("wouldGo", team, 1 + below(20));
        } else if (pick < 92) {
            return wild();
        }
        return pick < 95 ? same("digest") : same("build", team, action);
    }

    private boolean addAction() throws IllegalAccessException {
        int settings = subset(6);
        int actions = subset(Math.max(1, model.many(0)));
        return same("action", subset(8), actions, settings, settings & below(64), 1 + below(50), 1 + below(20));
    }

    private boolean allOfBuild(int team, int action) throws IllegalAccessException {
        return same("wouldRun", team, action) && same("wouldBeWrong", team, action)
                && same("ofAction", action, 6) && same("build", team, action) && same("many", 8);
    }

    /** A call with arguments of any sort. */
    private boolean wild() throws IllegalAccessException {
        List<String> names = new ArrayList<>(ofProgram.keySet());
        names.removeIf(name -> !ofModel.containsKey(name) || !isOfFace(name));
        names.sort(null);
        String name = names.get(below(names.size()));
        Object[] args = new Object[ofProgram.get(name).getParameterCount()];
        for (int k = 0; k < args.length; k++) {
            args[k] = below(3) == 0 ? EXTREMES[below(EXTREMES.length)] : below(12);
        }
        return same(name, args);
    }

    private boolean isOfFace(String name) {
        return java.lang.reflect.Modifier.isPublic(ofProgram.get(name).getModifiers());
    }

    private boolean same(String name, Object... args) throws IllegalAccessException {
        int[] before = {model.many(9), model.many(6), sumOfOut()};
        String due = answer(ofModel.get(name), model, args);
        String got = answer(ofProgram.get(name), program, args);
        calls.add(name + Arrays.toString(args) + " -> " + got);
        remember(name, due, before);
        if (!due.equals(got)) {
            System.out.println("due is " + due + " as the last answer of:");
            calls.forEach(System.out::println);
            return false;
        }
        return true;
    }

    private int sumOfOut() {
        int sum = 0;
        for (int a = 0; a < model.many(0); a++) {
            sum += Integer.bitCount(model.ofAction(a, 3));
        }
        return sum;
    }

    private void remember(String name, String due, int[] before) {
        boolean refused = due.startsWith("throws java.lang.IllegalState");
        note(name + " refused", refused);
        note(name + " " + due, name.equals("recheck") || name.startsWith("would"));
        note("quota went", name.equals("quota") && due.matches("[1-9]"));
        note("full", refused && name.equals("build") && model.many(3) > 57);
        note("wrong", model.many(9) > before[0]);
        note("poisoned", model.many(6) > before[1] + 1);
        note("out changed", sumOfOut() < before[2]);
    }

    private void note(String what, boolean happened) {
        if (happened) {
            seen.merge(what, 1, Integer::sum);
        }
    }

    private static String answer(Method method, Object target, Object[] args) throws IllegalAccessException {
        try {
            return String.valueOf(method.invoke(target, args));
        } catch (InvocationTargetException e) {
            return "throws " + e.getCause().getClass().getName();
        }
    }
}
