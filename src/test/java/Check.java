import java.nio.charset.StandardCharsets;

/** What the tests share: they count what is not as due, and end with exit code 1 then. */
final class Check {
    private static int wrong = 0;
    private static int done = 0;

    private Check() {
    }

    static void due(String call, long got, long want) {
        done++;
        if (got == want) return;
        wrong++;
        if (wrong <= 40) System.out.println(call + " answered " + got + ", due is " + want);
    }

    static void is(String what, boolean so) {
        due(what, so ? 1 : 0, 1);
    }

    static int wrong() {
        return wrong;
    }

    static void finish(String name) {
        System.out.println(name + ": " + done + " answers, " + wrong + " not as due");
        if (wrong != 0 || done == 0) System.exit(1);
    }

    /** Puts a text (signs 0 to 255) behind the TAPE. */
    static void tell(DoorFleet x, String text) {
        byte[] bytes = text.getBytes(StandardCharsets.ISO_8859_1);
        int length = x.count(7) + bytes.length;
        for (int i = 0; i < bytes.length; i += 20) {
            int[] n = fives(bytes, i);
            x.feed(n[0], n[1], n[2], n[3], n[4]);
            if (i + 20 >= bytes.length) x.end(length);
        }
    }

    /** Twenty bytes from a place on as five numbers (32 behind the end). */
    static int[] fives(byte[] bytes, int from) {
        int[] numbers = new int[5];
        for (int i = 0; i < 20; i++) {
            int b = from + i < bytes.length ? bytes[from + i] & 255 : 32;
            numbers[i / 4] = numbers[i / 4] << 8 | b;
        }
        return numbers;
    }

    static int law(DoorFleet x, String text) {
        tell(x, text);
        return x.law();
    }

    static int orders(DoorFleet x, String text) {
        tell(x, text);
        return x.orders();
    }

    /** A LAW that is read and in FORCE at once. */
    static void rule(DoorFleet x, String text) {
        int law = law(x, text);
        is("law: " + text, law >= 0);
        x.force(law);
    }
}
