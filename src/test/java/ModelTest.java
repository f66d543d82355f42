import java.lang.reflect.InvocationTargetException;
import java.lang.reflect.Method;
import java.lang.reflect.Modifier;
import java.util.ArrayList;
import java.util.Arrays;
import java.util.Comparator;
import java.util.List;
import java.util.Random;

/** Long runs of calls on a race and on the plain one, which must answer alike at every call. */
final class ModelTest {
    private static final int RUNS = 250;
    private static final int CALLS = 512;

    private final Random random;
    private final SparrowRace race = new SparrowRace();
    private final PlainRace plain = new PlainRace();
    private final List<String> told = new ArrayList<>();
    private boolean same = true;

    private ModelTest(long seed) {
        random = new Random(seed);
    }

    static void run() throws Exception {
        List<Method> looks = new ArrayList<>();
        for (Method m : PlainRace.class.getMethods()) {
            if (m.getDeclaringClass() == PlainRace.class && Modifier.isPublic(m.getModifiers())) {
                looks.add(m);
            }
        }
        looks.sort(Comparator.comparing(Method::getName));
        Check.due("methods", looks.size(), 53);
        for (int seed = 0; seed < RUNS; seed++) {
            ModelTest test = new ModelTest(seed);
            test.runOnce(looks);
            Check.due("run " + seed + " as the plain race", test.same, true);
        }
    }

    private void runOnce(List<Method> all) throws Exception {
        int birds = 1 + random.nextInt(8);
        for (int i = 0; i < birds; i++) {
            call("enter", 10 + random.nextInt(31), 100 + random.nextInt(900), random.nextInt(2));
        }
        while (told.size() < CALLS && same) {
            int kind = random.nextInt(100);
            if (kind < 30) {
                act();
            } else if (kind < 40) {
                typeSome();
            } else if (kind < 45) {
                call("digest");
            } else {
                Method m = all.get(random.nextInt(all.size()));
                call(m.getName(), someArguments(m.getParameterCount()));
            }
        }
    }

    private void act() throws Exception {
        int bird = random.nextInt(8);
        switch (random.nextInt(12)) {
            case 0 -> call("begin");
            case 1 -> call("callIn", bird);
            case 2 -> call("pair", bird, random.nextInt(8));
            case 3 -> call("setPace", bird, 10 + random.nextInt(31));
            case 4 -> call("setLimit", random.nextInt(4), 8 + random.nextInt(33));
            case 5 -> call("setLaps", 1 + random.nextInt(4));
            case 6 -> call("follow");
            case 7 -> call("undo");
            default -> call("pass", 1 + random.nextInt(random.nextInt(6) == 0 ? 60 : 6));
        }
    }

    private void typeSome() throws Exception {
        String[] parts = {"p0=1", "p3=40", "n1", "n5", "c0=8", "c2=4", "0", "t1", "t2", "t200", "x", "1", "9"};
        call("clearBuffer");
        StringBuilder s = new StringBuilder();
        for (int i = random.nextInt(4); i >= 0; i--) {
            s.append(parts[random.nextInt(parts.length)]).append(random.nextInt(3) == 0 ? "0" : "");
            s.append(i > 0 ? ";" : "");
        }
        for (char c : s.toString().toCharArray()) {
            call("append", (int) c);
        }
        call("firstError");
        call("follow");
    }

    private Object[] someArguments(int count) {
        Object[] arguments = new Object[count];
        for (int i = 0; i < count; i++) {
            arguments[i] = switch (random.nextInt(12)) {
                case 0 -> -1 - random.nextInt(3);
                case 1 -> random.nextInt();
                case 2 -> 190 + random.nextInt(20);
                case 3 -> 5 + random.nextInt(40);
                case 4 -> 90 + random.nextInt(920);
                default -> random.nextInt(9);
            };
        }
        return arguments;
    }

    private void call(String name, Object... arguments) throws Exception {
        if (told.size() == CALLS) {
            return;
        }
        Object got = answer(race, name, arguments);
        Object due = answer(plain, name, arguments);
        told.add(name + Arrays.toString(arguments) + " " + got);
        if (!due.equals(got)) {
            same = false;
            System.out.println(told);
            System.out.println("the latest answered " + got + ", due is " + due);
        }
    }

    private static Object answer(Object on, String name, Object[] arguments) throws Exception {
        Class<?>[] types = new Class<?>[arguments.length];
        Arrays.fill(types, int.class);
        try {
            return String.valueOf(on.getClass().getMethod(name, types).invoke(on, arguments));
        } catch (InvocationTargetException e) {
            return e.getCause().getClass().getSimpleName();
        }
    }
}
