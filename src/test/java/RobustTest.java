import java.lang.management.ManagementFactory;
import java.lang.reflect.Method;
import java.util.ArrayList;
import java.util.Comparator;
import java.util.List;
import java.util.Random;

/** No call throws, whatever it is given; twice the same calls, twice the same answers; little is made. */
public final class RobustTest {
    private static final int[] EDGES = {0, 1, 2, 3, 4, 7, 8, 9, 10, 24, 25, 63, 64, 99, 100, 400, 999, 1000, -1, -2,
        Integer.MAX_VALUE, Integer.MIN_VALUE, 1 << 25, (1 << 25) - 1, 0x66697473, 0x74696465, 0x6c61756e, 0x63682030};
    private static final String[] WORDS = {"catches", "slams", "fits", "bars", "launch", "sail", "fish", "hang", "tide",
        "by", "in", "times", "if", "not", "not", "and", "or", "(", "(", ")", "[", "[", "]", "+", "-", "*", "/", "%",
        "<", ">", "=", ";", "0", "1", "7", "20", "1000", "day", "wide", "at", "house", "catch", "done", "open"};

    private final List<Method> face = new ArrayList<>();

    public static void main(String[] args) throws Exception {
        new RobustTest().go();
        makesLittle();
        Check.finish("RobustTest");
    }

    private void go() throws Exception {
        for (Method m : DoorFleet.class.getMethods()) if (m.getDeclaringClass() == DoorFleet.class) face.add(m);
        face.sort(Comparator.comparing(Method::getName));
        for (int run = 0; run < 1500; run++) {
            Check.due("run " + run + " twice", answers(run), answers(run));
        }
    }

    /** All answers of a run as one number. */
    private long answers(int run) throws Exception {
        Random r = new Random(run);
        DoorFleet x = new DoorFleet();
        long all = 0;
        if (run % 3 > 0) {
            for (int h = 0; h < 8; h++) {
                x.house(1 + r.nextInt(9));
                x.door(1 + r.nextInt(9), r.nextInt(4), h, r.nextInt(64));
                if (r.nextBoolean()) x.launch(h);
            }
        }
        for (int call = 0; call < 440; call++) {
            if (r.nextInt(20) == 0) words(x, r);
            Method m = face.get(r.nextInt(face.size()));
            Object[] a = new Object[m.getParameterCount()];
            for (int i = 0; i < a.length; i++) a[i] = number(r);
            try {
                all = all * 31 + ((Number) m.invoke(x, a)).longValue();
            } catch (java.lang.reflect.InvocationTargetException e) {
                Check.is("run " + run + ": " + m.getName() + " threw " + e.getCause(), false);
                return all;
            }
        }
        return all;
    }

    private static int number(Random r) {
        int kind = r.nextInt(4);
        return kind == 0 ? EDGES[r.nextInt(EDGES.length)] : kind == 1 ? r.nextInt() : r.nextInt(10);
    }

    private static void words(DoorFleet x, Random r) {
        StringBuilder text = new StringBuilder();
        while (text.length() < 300 && r.nextInt(12) > 0) text.append(WORDS[r.nextInt(WORDS.length)]).append(' ');
        Check.tell(x, text.toString());
        if (r.nextBoolean()) x.law();
        else x.orders();
    }

    /** A whole run of the dearest calls may make but a small part of what the room holds. */
    private static void makesLittle() {
        com.sun.management.ThreadMXBean bean = (com.sun.management.ThreadMXBean) ManagementFactory.getThreadMXBean();
        long least = Long.MAX_VALUE;
        for (int i = 0; i < 5; i++) {
            long before = bean.getThreadAllocatedBytes(Thread.currentThread().getId());
            dearRun();
            least = Math.min(least, bean.getThreadAllocatedBytes(Thread.currentThread().getId()) - before);
        }
        System.out.println("bytes made in a run: " + least);
        Check.is("bytes made in a run: " + least, least < 600_000);
    }

    private static void dearRun() {
        DoorFleet x = new DoorFleet();
        for (int h = 0; h < 8; h++) {
            x.house(5);
            x.door(5, 0, h, h);
        }
        for (int f = 0; f < 8; f++) x.foe(5);
        for (int i = 0; i < 12; i++) {
            x.image(0);
            // "fits;bars;fits;bars;"
            for (int n = 0; n < 2; n++) x.feed(0x66697473, 0x3b626172, 0x733b6669, 0x74733b62, 0x6172733b);
            x.end(39);
            x.law();
            x.force(0);
            x.back(0);
            for (int t = 0; t < 5; t++) x.feed(0x74696465, 0x2074696d, 0x65732032, 0x303b2020, 0x20202020);
            x.end(93);
            x.orders();
            x.launch(i % 8);
            for (int n = 0; n < 4; n++) {
                x.hanging(0);
                x.battle(0);
                x.search(127 << 9, -1);
                x.summers(i, 60);
                x.fleet(40, 0);
                x.undo();
            }
        }
    }
}
