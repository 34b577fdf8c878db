import java.lang.reflect.Method;
import java.util.ArrayList;
import java.util.Comparator;
import java.util.List;
import java.util.Random;

/** Every method with numbers from everywhere, in many states: no call may throw. */
public final class EdgeTest {
    private static final int[] EDGES = {Integer.MIN_VALUE, Integer.MIN_VALUE + 1, -1000000, -4, -3, -2, -1, 0, 1, 2, 3, 4,
        5, 6, 7, 8, 9, 10, 11, 17, 18, 30, 31, 32, 33, 255, 256, 999, 9999, 10000, 1 << 29, 1 << 30, 1 << 31,
        Integer.MAX_VALUE - 1, Integer.MAX_VALUE};
    private static final String[] TEXTS = {"cloth 8;person 999;person 50;person 7;person 0;owner 1 1;owner 2 2",
        "cloth 2;person 3", "cloth 5", "cloth 3;person 9;person 9;crease 0 1;crease 1 1",
        "price worth*cell-owner/layer%way;price 3", "price 1 if not [cell=1 or way=0] and 0/0=0%0",
        "price 99999*99999*99999*99999*99999*99999/owner", "price", "cloth 8;owner"};

    public static void main(String[] args) throws Exception {
        List<Method> methods = new ArrayList<>();
        for (Method m : FoldDeeds.class.getDeclaredMethods()) {
            if (java.lang.reflect.Modifier.isPublic(m.getModifiers())) {
                methods.add(m);
            }
        }
        methods.sort(Comparator.comparing(Method::getName));
        Random random = new Random(7);
        int calls = 0;
        for (int run = 0; run < 300; run++) {
            FoldDeeds x = new FoldDeeds();
            for (int i = 0; i < 512; i++) {
                if (random.nextInt(25) == 0) {
                    Told.put(x, TEXTS[random.nextInt(TEXTS.length)]);
                    int unused = random.nextBoolean() ? x.cloth() : x.rule();
                }
                Method m = methods.get(random.nextInt(methods.size()));
                Object[] with = new Object[m.getParameterCount()];
                for (int k = 0; k < with.length; k++) {
                    with[k] = random.nextInt(3) > 0 ? random.nextInt(3) : EDGES[random.nextInt(EDGES.length)];
                }
                m.invoke(x, with);
                calls++;
            }
        }
        System.out.println(calls + " calls, and none threw");
    }
}
