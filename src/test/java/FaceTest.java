import java.lang.reflect.Constructor;
import java.lang.reflect.Field;
import java.lang.reflect.Method;
import java.lang.reflect.Modifier;
import java.util.ArrayList;
import java.util.List;
import java.util.TreeSet;

/** The public face is the document's, and calls make next to nothing. */
public final class FaceTest {
    private static final String METHODS = "feed5 end1 cloth0 rule0 force1 cell2 joint2 person2 thick1 fold4 open0 iron1"
            + " give2 undo0 cost4 mark2 folds1 stacks1 peek1 richest1 own3 last1 dearest2 log4 ruled1 look1 seed1"
            + " days3 count1 image1 back1";
    private static int wrong = 0;

    private static void check(boolean holds, String what) {
        if (!holds) {
            wrong++;
            System.out.println("not so: " + what);
        }
    }

    private static void face() {
        TreeSet<String> due = new TreeSet<>(List.of(METHODS.split(" ")));
        TreeSet<String> got = new TreeSet<>();
        for (Method m : FoldDeeds.class.getDeclaredMethods()) {
            if (Modifier.isPrivate(m.getModifiers())) {
                continue;
            }
            check(Modifier.isPublic(m.getModifiers()) && m.getReturnType() == int.class, m + " is public and answers int");
            for (Class<?> type : m.getParameterTypes()) {
                check(type == int.class, m + " takes int alone");
            }
            got.add(m.getName() + m.getParameterCount());
        }
        check(got.equals(due), "the methods are " + due + ", not " + got);
        Constructor<?>[] made = FoldDeeds.class.getDeclaredConstructors();
        check(made.length == 1 && Modifier.isPublic(made[0].getModifiers()) && made[0].getParameterCount() == 0,
                "one public constructor without arguments");
        for (Field f : FoldDeeds.class.getDeclaredFields()) {
            check(Modifier.isPrivate(f.getModifiers()) || f.getName().equals("NONE"), f + " is private");
        }
        check(FoldDeeds.NONE == -1, "NONE is -1");
        check(Modifier.isFinal(FoldDeeds.class.getModifiers()), "the class is final");
        Class<?>[] inside = FoldDeeds.class.getDeclaredClasses();
        check(inside.length + 1 <= 12, "twelve classes at most");
        for (Class<?> c : inside) {
            check(Modifier.isStatic(c.getModifiers()) && Modifier.isPrivate(c.getModifiers()), c + " is static, private");
            for (Method m : c.getDeclaredMethods()) {
                check(!(" " + METHODS.replaceAll("\\d", " ")).contains(" " + m.getName() + " "),
                        c + "'s " + m.getName() + " bears no name of the face");
                check(m.getParameterCount() <= 7, m + " takes seven at most");
            }
        }
    }

    /** Bytes made by the dearest calls: the room of a run has no way to give back. */
    private static void room() {
        var bean = (com.sun.management.ThreadMXBean) java.lang.management.ManagementFactory.getThreadMXBean();
        List<FoldDeeds> kept = new ArrayList<>();
        new FoldDeeds();
        long before = bean.getCurrentThreadAllocatedBytes();
        FoldDeeds x = new FoldDeeds();
        check(bean.getCurrentThreadAllocatedBytes() - before < 40_000, "a new object is small");
        kept.add(x);
        Told.put(x, "cloth 8;person 999;person 999;person 999;person 999");
        x.cloth();
        Told.put(x, "price cell*cell-day if [cell>layer or not owner=buyer] and way<=1;price moved*width%7");
        x.rule();
        x.force(0);
        use(x, 25);
        before = bean.getCurrentThreadAllocatedBytes();
        use(x, 25);
        check(bean.getCurrentThreadAllocatedBytes() - before < 2_000, "calls make nothing once all rows are there");
    }

    private static void use(FoldDeeds x, int times) {
        for (int i = 0; i < times; i++) {
            x.fold(i % 4, i % 7, i % 2, i / 2 % 2);
            x.own(i % 4, 255, -1);
            x.stacks(i % 8);
            x.stacks(10 + i % 8);
            x.peek(i % 2);
            x.richest(i % 2);
            x.folds(-1);
            x.dearest(0, 0);
            x.mark(i % 7, i % 3);
            x.log(i % 7, 0, 0, 5);
            x.ruled(1);
            x.look(1);
            x.days(10, 30, 1);
            x.image(i % 4);
            x.undo();
            x.back(i % 4);
            x.fold(i % 4, 0, 0, 0);
            x.open();
            x.give(1, i % 4);
        }
    }

    public static void main(String[] args) {
        face();
        room();
        System.out.println(wrong == 0 ? "the face and the room are as due" : wrong + " things are not so");
        if (wrong > 0) {
            System.exit(1);
        }
    }
}
