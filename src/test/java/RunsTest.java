import java.lang.reflect.InvocationTargetException;
import java.lang.reflect.Method;
import java.util.ArrayList;
import java.util.Arrays;
import java.util.Comparator;
import java.util.HashMap;
import java.util.List;
import java.util.Map;

/**
 * Runs of 512 calls on new objects, each call answered by the program and by the model, which must
 * agree, also on what they throw. The runs are always the same: their numbers come from a row of
 * numbers that each one makes the next of.
 */
final class RunsTest {
    private static final int RUNS = 1500;
    private static final int CALLS = 512;
    private static final String[] TEXTS = {"r0*3;", "g1*4;", "b0*9;", "s0*5;", "k0;", "k1;", "d1;", "d2;", "r2*30;",
        "g2*45;", "b1*12;", "s1*12;", "r5*999;", "d9;", "k3;", "s3*1;", "g7*1;", "x", "r0*0;", "k", "r8*1;", "d0;"};

    private static long row = 1;
    private static final Map<String, Integer> thrown = new HashMap<>();
    private static final Map<String, Integer> answered = new HashMap<>();

    public static void main(String[] args) throws Exception {
        List<Method> methods = new ArrayList<>();
        for (Method method : SparePlanner.class.getDeclaredMethods()) {
            if (java.lang.reflect.Modifier.isPublic(method.getModifiers())) {
                methods.add(method);
            }
        }
        // their order is not the same on all machines
        methods.sort(Comparator.comparing(Method::getName));
        Check.due("the methods of the face", methods.size(), 44);
        for (int run = 0; run < RUNS; run++) {
            compare(run, methods);
        }
        for (Method method : methods) {
            Check.same("runs in which " + method.getName() + " answers", answered.containsKey(method.getName()), true);
            for (Class<?> type : method.getExceptionTypes()) {
                String name = method.getName() + " " + type.getSimpleName();
                Check.same("runs with " + name, thrown.containsKey(name), true);
            }
        }
        Check.end("RunsTest");
    }

    private static int next(int bound) {
        row = row * 6364136223846793005L + 1442695040888963407L;
        return (int) ((row >>> 33) % bound);
    }

    private static void compare(int run, List<Method> methods) throws Exception {
        SparePlanner program = new SparePlanner();
        Model model = new Model();
        List<String> calls = new ArrayList<>();
        List<Object[]> planned = new ArrayList<>();
        int parts = 1 + next(9);
        for (int part = 0; part < parts; part++) {
            planned.add(new Object[] {"addPart"});
        }
        for (int i = 0; i < CALLS; i++) {
            if (planned.isEmpty()) {
                plan(planned, methods);
            }
            Object[] call = planned.remove(0);
            Method method = methods.stream().filter(one -> one.getName().equals(call[0])).findFirst().orElseThrow();
            Object[] arguments = call.length > 1 ? (Object[]) call[1] : arguments(method, model.count(0));
            String got = outcome(method, program, arguments);
            Method same = Model.class.getMethod(method.getName(), method.getParameterTypes());
            String due = outcome(same, model, arguments);
            calls.add(method.getName() + Arrays.toString(arguments) + " -> " + due);
            Map<String, Integer> counts = got.endsWith("Exception") ? thrown : answered;
            String name = method.getName() + (got.endsWith("Exception") ? " " + got : "");
            counts.merge(name, 1, Integer::sum);
            Check.same("run " + run + " call " + i + " " + method.getName() + Arrays.toString(arguments), got, due);
            if (!got.equals(due)) {
                calls.forEach(System.out::println);
                Check.end("RunsTest");
            }
        }
    }

    private static String outcome(Method method, Object object, Object[] arguments) throws Exception {
        try {
            return String.valueOf(method.invoke(object, arguments));
        } catch (InvocationTargetException e) {
            return e.getCause().getClass().getSimpleName();
        }
    }

    private static void plan(List<Object[]> planned, List<Method> methods) {
        int kind = next(100);
        if (kind < 4) {
            StringBuilder text = new StringBuilder();
            int entries = next(6) == 0 ? 1 + next(14) : 1 + next(3);
            for (int i = 0; i < entries; i++) {
                text.append(TEXTS[next(next(4) == 0 ? TEXTS.length : 13)]);
            }
            for (char character : text.toString().toCharArray()) {
                planned.add(new Object[] {"append", new Object[] {character}});
            }
            planned.add(new Object[] {"read"});
        } else if (kind == 4) {
            int part = next(4);
            planned.add(new Object[] {"giveBack", new Object[] {part, 20, false}});
            for (int i = 0; i < 13; i++) {
                planned.add(new Object[] {"send", new Object[] {part, 1 + next(2)}});
            }
        } else if (kind < 55) {
            String[] often = {"request", "request", "giveBack", "giveBack", "send", "advance", "take", "cancel",
                "addKit", "setBounds", "addSubstitute", "setYield", "removeSubstitute", "undo"};
            planned.add(new Object[] {often[next(often.length)]});
        } else {
            String name = methods.get(next(methods.size())).getName();
            boolean isRare = name.equals("clear") || name.equals("restore");
            planned.add(new Object[] {isRare && next(4) != 0 ? "count" : name});
        }
    }

    private static Object[] arguments(Method method, int parts) {
        Class<?>[] types = method.getParameterTypes();
        Object[] arguments = new Object[types.length];
        for (int i = 0; i < types.length; i++) {
            if (types[i] == boolean.class) {
                arguments[i] = next(2) == 0;
            } else if (types[i] == char.class) {
                arguments[i] = (char) (next(40) == 0 ? next(65536) : 32 + next(95));
            } else {
                arguments[i] = next(50) == 0 ? wild() : number(method.getName(), i, parts);
            }
        }
        return arguments;
    }

    private static int wild() {
        int[] wild = {-1, 0, 1000, 999, Integer.MIN_VALUE, Integer.MAX_VALUE, 100, 101, 10, 12, 31};
        return wild[next(wild.length)];
    }

    private static int part(int parts) {
        return next(20) == 0 ? parts : next(Math.max(parts, 1));
    }

    private static int quantity() {
        return next(8) == 0 ? 1 + next(999) : 1 + next(12);
    }

    private static int number(String method, int i, int parts) {
        switch (method) {
            case "addPart": return i == 0 ? next(30) : i == 3 ? next(101) : 1 + next(next(2) == 0 ? 9 : 2);
            case "setBounds": return i == 0 ? part(parts) : (i - 1) * 4 + next(12);
            case "setYield": return i == 0 ? part(parts) : next(101);
            case "addKit": return i == 0 ? next(5) : i == 1 ? part(parts) : 1 + next(9);
            case "count": return next(8);
            case "part": return i == 0 ? part(parts) : next(10);
            case "substitute": return i == 0 ? part(parts) : next(4);
            case "item": return next(4);
            case "request": return i == 0 ? part(parts) : quantity();
            case "giveBack": return i == 0 ? part(parts) : quantity();
            case "send": return i == 0 ? part(parts) : 1 + next(8);
            case "taken": return i < 2 ? part(parts) : quantity();
            case "waiting": return next(5);
            case "cancel": return next(next(2) == 0 ? 2 : 12);
            case "take": case "possible": case "lacking": return next(5);
            case "repair": case "order": return next(3);
            case "advance": return 1 + next(next(8) == 0 ? 30 : 2);
            case "stockAfter": return i == 0 ? part(parts) : next(31);
            case "movement": return i == 0 ? part(parts) : next(8);
            case "reason": return next(3);
            case "sample": return i == 0 ? next(2) : i == 1 ? next(3) : part(parts);
            case "sampled": return next(i == 0 ? 2 : 3);
            default: return part(parts);
        }
    }
}
