import java.lang.reflect.Method;
import java.lang.reflect.Modifier;
import java.util.Arrays;
import java.util.List;
import java.util.Random;

/**
 * The document's Terms, by every call with numbers at the edges and far off: what is asked and what is refused changes nothing,
 * and each answer is the naive model's. Arguments: how many rounds, first seed.
 */
public final class TermsEdgesTest extends Edge {
    private static final List<String> ASKED = List.of("lineOf", "count", "fits", "place", "ways", "ratio", "whole", "off", "rings", "ring",
        "circled", "rate", "worst", "turns", "binds", "room", "judge", "arcs", "tight", "next", "compare", "told", "item");
    private static final int[] INTS = {MIN, MIN + 1, -1025, -101, -16, -2, -1, 0, 1, 2, 3, 4, 5, 6, 7, 8, 9, 10, 11, 15, 16, 17, 31, 32, 39,
        40, 41, 42, 63, 64, 119, 120, 121, 1023, 1024, 9999, 10000, MAX - 1, MAX};
    private static final long[] LONGS = {LEAST, LEAST + 1, NO, -(1L << 32), MIN - 1L, MIN, -2, -1, 0, 1, 2, 3, 5, 16, MAX, MAX + 1L, ALL - 1,
        ALL, ALL + 1, 1L << 62, MOST - 1, MOST};

    public static void main(String[] args) throws Exception {
        int rounds = args.length > 0 ? Integer.parseInt(args[0]) : 150;
        long seed = args.length > 1 ? Long.parseLong(args[1]) : 1;
        constants();
        Random random = new Random(seed);
        for (int round = 0; round < rounds; round++) {
            for (Method m : CircleTints.class.getDeclaredMethods()) {
                if (!Modifier.isPublic(m.getModifiers())) continue;
                for (Scene scene : SCENES) tryOne(random, scene, m);
            }
        }
        for (int run = 0; run < rounds / 5; run++) manyCalls(random);
        end();
    }

    private static void constants() {
        due("NONE", CircleTints.NONE, -1);
        due("BAD", CircleTints.BAD, -2);
        due("STATE", CircleTints.STATE, -3);
        due("FULL", CircleTints.FULL, -4);
        due("MUCH", CircleTints.MUCH, -5);
        due("NO", CircleTints.NO, -(1L << 62));
    }

    private static Object[] arguments(Random random, Method m, boolean small) {
        Class<?>[] types = m.getParameterTypes();
        Object[] all = new Object[types.length];
        for (int i = 0; i < all.length; i++) {
            if (types[i] == long.class) all[i] = LONGS[random.nextInt(LONGS.length)];
            else all[i] = small && random.nextInt(8) > 0 ? random.nextInt(6) : INTS[random.nextInt(INTS.length)];
        }
        return all;
    }

    private static boolean isRefusal(Method m, long answer) {
        if (m.getName().equals("list") || m.getName().equals("told") || m.getName().equals("item")) return answer >= NO - 20 && answer < NO;
        // z may be below 0 as well, and a text with a FAULT empties THE TAPE
        return answer < 0 && !m.getName().equals("seed") && !m.getName().equals("text");
    }

    private static void tryOne(Random random, Scene scene, Method m) throws Exception {
        Object[] args = arguments(random, m, random.nextBoolean());
        String what = m.getName() + Arrays.toString(args);
        long answer = ((Number) m.invoke(scene.make(), args)).longValue();
        if (!isRefusal(m, answer) && !ASKED.contains(m.getName())) return;
        refuses(what, scene, x -> {
            try {
                return ((Number) m.invoke(x, args)).longValue();
            } catch (ReflectiveOperationException e) {
                throw new IllegalStateException(what, e);
            }
        }, answer);
    }

    /** 512 calls on one object, as many as it is for, mostly with small numbers. */
    private static void manyCalls(Random random) throws Exception {
        Method[] all = Arrays.stream(NaiveTints.class.getDeclaredMethods()).filter(m -> Modifier.isPublic(m.getModifiers()))
            .sorted((a, b) -> a.toString().compareTo(b.toString())).toArray(Method[]::new);
        CircleTints x = new CircleTints();
        NaiveTints naive = new NaiveTints();
        for (int call = 0; call < 512; call++) {
            Method m = all[random.nextInt(all.length)];
            Object[] args = arguments(random, m, random.nextInt(4) > 0);
            // many places take the naive search very long
            if (List.of("fits", "place", "paint").contains(m.getName())) args[m.getName().equals("paint") ? 1 : 0] = random.nextInt(14);
            Method real = CircleTints.class.getMethod(m.getName(), m.getParameterTypes());
            long got = ((Number) real.invoke(x, args)).longValue();
            due(call + " " + m.getName() + Arrays.toString(args), got, ((Number) m.invoke(naive, args)).longValue());
        }
    }
}
