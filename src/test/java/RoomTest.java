import java.lang.management.ManagementFactory;
import java.lang.reflect.InvocationTargetException;
import java.lang.reflect.Method;
import java.lang.reflect.Modifier;
import java.util.ArrayList;
import java.util.Comparator;
import java.util.List;
import java.util.Random;

/** No call throws, whatever it is given in whatever state; and a long run makes little that is new. */
public final class RoomTest {
    private static final int[] EDGES = {Integer.MIN_VALUE, -2, -1, 0, 1, 2, 3, 4, 5, 6, 7, 8, 9, 10, 11, 17, 18, 30, 31,
        39, 40, 60, 61, 63, 64, 99, 100, 127, 128, 300, 301, 999, 9999, 10000, Integer.MAX_VALUE};

    public static void main(String[] args) throws IllegalAccessException {
        int thrown = 0;
        for (int run = 0; run < 400; run++) {
            thrown += drawn(new Random(run));
        }
        long bytes = allocated();
        System.out.println(thrown + " calls threw; a heavy run of 512 calls makes " + bytes + " bytes");
        if (thrown != 0 || bytes > 400000) {
            System.exit(1);
        }
    }

    private static List<Method> calls() {
        List<Method> all = new ArrayList<>();
        for (Method m : UntilHeConfesses.class.getDeclaredMethods()) {
            if (Modifier.isPublic(m.getModifiers())) {
                all.add(m);
            }
        }
        all.sort(Comparator.comparing(Method::getName));
        return all;
    }

    private static int drawn(Random r) throws IllegalAccessException {
        UntilHeConfesses x = new UntilHeConfesses();
        int thrown = 0;
        List<Method> all = calls();
        for (int k = 0; k < 512; k++) {
            Method m = all.get(r.nextInt(all.size()));
            Class<?>[] types = m.getParameterTypes();
            Object[] given = new Object[types.length];
            for (int i = 0; i < given.length; i++) {
                int edge = EDGES[r.nextInt(r.nextBoolean() ? 10 : EDGES.length)];
                given[i] = types[i] == boolean.class ? (Object) r.nextBoolean() : (Object) (r.nextInt(40) == 0 ? r.nextInt() : edge);
            }
            try {
                m.invoke(x, given);
            } catch (InvocationTargetException e) {
                thrown++;
                System.out.println(m + " " + List.of(given) + ": " + e.getCause());
            }
        }
        return thrown;
    }

    /** What a run of the dearest calls makes, the whole house told and long texts read. */
    private static long allocated() {
        com.sun.management.ThreadMXBean bean = (com.sun.management.ThreadMXBean) ManagementFactory.getThreadMXBean();
        heavy();
        long id = Thread.currentThread().getId();
        long ahead = bean.getThreadAllocatedBytes(id);
        heavy();
        return bean.getThreadAllocatedBytes(id) - ahead;
    }

    private static void heavy() {
        UntilHeConfesses x = new UntilHeConfesses();
        for (int s = 0; s < 5; s++) {
            x.suspect(s == 0, s, s * 7);
        }
        for (int c = 0; c < 7; c++) {
            x.scene(c, c + 1);
        }
        x.image();
        // "guilt " and "1+1+1+" over and over, then "1;"
        for (int k = 0; k < 20; k++) {
            x.feed(0x20202020, 0x20202020, 0x20202020, 0x20206775, 0x696c7420);
            for (int i = 0; i < 13; i++) {
                x.feed(0x312b312b, 0x312b312b, 0x312b312b, 0x312b312b, 0x312b312b);
            }
            x.feed(0x313b2020, 0x20202020, 0x20202020, 0x20202020, 0x20202020);
            x.text();
            x.by(0);
            x.foretold(60, 0);
            x.back();
        }
        for (int k = 0; k < 10; k++) {
            x.night(60);
            x.seasons(k, 30);
            x.order(0, 31, -1);
            x.orders();
            x.seating(31, -1);
            x.sittings(true);
            x.staysAway(9, 1, 1, 0);
            x.cuts(30);
            x.both(0, 1, true);
            x.firstSign(0);
            x.image();
            x.back();
            x.undo();
            x.claque(17, 3, true);
        }
    }
}
