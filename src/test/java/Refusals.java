import java.lang.reflect.Method;
import java.lang.reflect.Modifier;
import java.util.ArrayList;
import java.util.Arrays;
import java.util.List;

/** Makes calls in a scene with all numbers beside edges; those that are refused, or only ask, must leave what it shows as it was. */
final class Refusals {
    private static final List<Long> ANSWERS = List.of(-1L, -2L, -3L, -4L, -9L, -11L, -12L, -13L, -14L, ShareNets.NO);

    private static final List<String> ASKING = List.of("netOf", "same", "form", "formAt", "count", "share", "lift", "free", "heap", "most", "at",
        "freeAt", "shareOf", "gives", "value", "valueAt", "bound", "slack", "tight", "met", "row", "judge", "item", "taken", "trace", "many");

    /** A scene, these calls and a picture together are fewer than the 512 calls of an object. */
    private static final int AT_ONCE = 60;

    private final Scene scene;
    private final long[] world;
    private final long[] host;
    private final List<Object[]> harmless = new ArrayList<>();
    private int changes = 0;
    private int seen = 0;

    Refusals(Scene scene) {
        this.scene = scene;
        world = Picture.ofWorld(scene.make());
        host = Picture.ofHost(scene.make());
    }

    /** All calls but seed(), whose answers are no refusals, and act(), which has its own. */
    static List<Method> calls() {
        List<Method> calls = new ArrayList<>();
        for (Method method : ShareNets.class.getDeclaredMethods()) {
            String name = method.getName();
            if (Modifier.isPublic(method.getModifiers()) && !name.equals("seed") && !name.equals("act")) {
                calls.add(method);
            }
        }
        return calls;
    }

    int changes() {
        return changes;
    }

    int seen() {
        return seen;
    }

    void tryAll(Method method, int[][] valuesByArguments) {
        Class<?>[] types = method.getParameterTypes();
        int[] values = valuesByArguments[types.length];
        long cases = Math.round(Math.pow(values.length, types.length));
        ShareNets x = scene.make();
        for (long one = 0; one < cases; one++) {
            Object[] args = arguments(types, values, one);
            if (ANSWERS.contains(answer(method, x, args))) {
                harmless.add(args);
                seen++;
            } else if (ASKING.contains(method.getName())) {
                harmless.add(args);
            } else {
                x = scene.make();
            }
            if (harmless.size() == AT_ONCE || one == cases - 1) {
                compare(method);
                x = scene.make();
            }
        }
    }

    private void compare(Method method) {
        ShareNets one = scene.make();
        ShareNets other = scene.make();
        for (Object[] args : harmless) {
            answer(method, one, args);
            answer(method, other, args);
        }
        if (!Arrays.equals(world, Picture.ofWorld(one)) || !Arrays.equals(host, Picture.ofHost(other))) {
            changes++;
            System.out.println("scene " + scene + ": one of these changed something that it must not:");
            for (Object[] args : harmless) {
                System.out.print(" " + Check.show(method.getName(), args));
            }
            System.out.println();
        }
        harmless.clear();
    }

    private static long answer(Method method, ShareNets x, Object[] args) {
        try {
            return ((Number) method.invoke(x, args)).longValue();
        } catch (ReflectiveOperationException e) {
            throw new IllegalStateException(Check.show(method.getName(), args), e);
        }
    }

    private static Object[] arguments(Class<?>[] types, int[] values, long number) {
        Object[] args = new Object[types.length];
        long rest = number;
        for (int i = 0; i < types.length; i++) {
            int value = values[(int) (rest % values.length)];
            rest /= values.length;
            args[i] = types[i] == int.class ? (Object) value : types[i] == long.class ? (Object) (long) value : (Object) (value % 2 == 0);
        }
        return args;
    }
}
