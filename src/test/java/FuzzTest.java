import java.lang.reflect.Method;
import java.lang.reflect.Modifier;
import java.util.ArrayList;
import java.util.Comparator;
import java.util.List;
import java.util.Random;

/** No call throws, whatever it is handed and in whatever state, and none goes on for long. */
public final class FuzzTest {
    private static final int[] EDGES = {Integer.MIN_VALUE, Integer.MIN_VALUE + 1, -1001, -101, -100, -10, -9, -2, -1, 0, 1, 2, 3, 4,
        5, 6, 7, 8, 9, 10, 11, 12, 13, 14, 15, 16, 29, 30, 31, 32, 33, 59, 60, 61, 99, 100, 101, 255, 999, 1000, 1001, 4095, 4096,
        100000, 100001, Integer.MAX_VALUE - 1, Integer.MAX_VALUE};

    public static void main(String[] args) throws Exception {
        Random random = new Random(7);
        RandomTexts texts = new RandomTexts(random);
        List<Method> face = new ArrayList<>();
        for (Method m : HedgeRecord.class.getDeclaredMethods()) {
            if (Modifier.isPublic(m.getModifiers())) {
                face.add(m);
            }
        }
        // The machine lists methods in no fixed order; the lots are to fall alike each time.
        face.sort(Comparator.comparing(Method::getName));
        int calls = 0;
        for (int run = 0; run < 400; run++) {
            HedgeRecord x = new HedgeRecord();
            if (run % 8 != 0) {
                Checks.read(x, texts.good());
            }
            for (int i = 0; i < 512; i++) {
                Method m = face.get(random.nextInt(face.size()));
                if (m.getName().equals("hedge") && random.nextInt(8) != 0) {
                    // What lies on the tape by chance is no hedge; without others most runs would go on with none.
                    x.end(0);
                    Checks.read(x, random.nextInt(3) == 0 ? texts.flawed() : texts.good());
                } else {
                    call(x, m, random);
                }
                calls++;
            }
        }
        System.out.println(calls + " calls, none of which threw");
    }

    private static void call(HedgeRecord x, Method m, Random random) throws Exception {
        Class<?>[] types = m.getParameterTypes();
        Object[] values = new Object[types.length];
        for (int i = 0; i < types.length; i++) {
            if (types[i] == boolean.class) {
                values[i] = random.nextBoolean();
            } else {
                values[i] = random.nextInt(3) == 0 ? EDGES[random.nextInt(EDGES.length)]
                    : random.nextInt(40) == 0 ? random.nextInt() : random.nextInt(6);
            }
        }
        m.invoke(x, values);
    }
}
