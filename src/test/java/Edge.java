import java.util.ArrayList;
import java.util.List;

/**
 * What the tests of the document's edges share: one run of calls, by sentences.
 * A call that must change nothing is set against the same run without it.
 */
class Edge {
    interface Call {
        long on(DoorFleet x);
    }

    static final int[] ODD = {Integer.MIN_VALUE, -1_000_000, -2, Integer.MAX_VALUE, 1_000_000_000};

    private static DoorFleet now;
    private static final List<Call> CALLS = new ArrayList<>();

    static void says(String part, String words) {
        Doc.says(part, words);
    }

    // ---- beginnings ----

    /** A new object with HOUSES of these SIZES. */
    static void fresh(int... sizes) {
        now = new DoorFleet();
        CALLS.clear();
        for (int size : sizes) does(x -> x.house(size));
    }

    /** The same, each HOUSE with a DOOR as WIDE in it. */
    static void hung(int... sizes) {
        fresh(sizes);
        for (int h : upTo(sizes.length)) does(x -> x.door(sizes[h], 0, h, 0));
    }

    /** The same, each DOOR in the HARBOUR, and nothing to undo. */
    static void launched(int... sizes) {
        hung(sizes);
        for (int d : upTo(sizes.length)) does(x -> x.launch(d));
        does(x -> x.terms(0, 0));
    }

    static void tell(String text) {
        does(x -> {
            Check.tell(x, text);
            return 0;
        });
    }

    /** A LAW, in FORCE. */
    static void rule(String text) {
        tell(text);
        does(x -> x.force(x.law()));
        is("\"" + text + "\" is a law", now.status() == 0 && now.fault() == -1);
    }

    static int[] upTo(int n) {
        int[] all = new int[n];
        for (int i = 0; i < n; i++) all[i] = i;
        return all;
    }

    static String again(String text, int times, String between) {
        StringBuilder all = new StringBuilder(text);
        for (int i = 1; i < times; i++) all.append(between).append(text);
        return all.toString();
    }

    static String bytes(int... numbers) {
        StringBuilder text = new StringBuilder();
        for (int n : numbers) text.append((char) n);
        return text.toString();
    }

    // ---- calls and what is due ----

    /** A call whose answer is not looked at. */
    static long does(Call call) {
        CALLS.add(call);
        return call.on(now);
    }

    static void due(Call call, long want) {
        told("", does(call), want);
    }

    /** One of status()'s calls that is not REFUSED. */
    static void granted(Call call, long want) {
        int[] before = refusals();
        told("", does(call), want);
        told("status", now.status(), 0);
        for (int i = 0; i < 5; i++) told("count " + (8 + i), now.count(8 + i), before[i]);
    }

    /** One that is REFUSED: it is counted, status() tells it, and nothing else has changed. */
    static void refused(Call call, int by) {
        same(call, x -> 0, false);
        counted(call, by);
    }

    /** law(), orders(), row() REFUSED: the TAPE is empty then, and FAULT and stopped() are as told. */
    static void unread(Call call, int by, int fault, int stopped) {
        same(call, x -> x.end(0), true);
        counted(call, by);
        told("the TAPE", now.count(7), 0);
        told("fault", now.fault(), fault);
        told("stopped", now.stopped(), stopped);
    }

    /** A call that answers NONE: it is no REFUSED one, and nothing has changed. */
    static void none(Call call) {
        same(call, x -> 0, false);
        int[] before = refusals();
        int status = now.status();
        told("", does(call), -1);
        told("status", now.status(), status);
        for (int i = 0; i < 5; i++) told("count " + (8 + i), now.count(8 + i), before[i]);
    }

    private static void counted(Call call, int by) {
        int[] before = refusals();
        told("", does(call), by);
        told("status", now.status(), by);
        int[] kinds = {-1, -2, -3, -5, -6};
        for (int i = 0; i < 5; i++) {
            told("count " + (8 + i), now.count(8 + i), before[i] + (kinds[i] == by ? 1 : 0));
        }
    }

    private static int[] refusals() {
        int[] all = new int[5];
        for (int i = 0; i < 5; i++) all[i] = now.count(8 + i);
        return all;
    }

    /** All that can be asked, undone and gone back to is as if the other call had come in its place. */
    private static void same(Call call, Call other, boolean reading) {
        List<String> got = Look.at(replayed(call), reading);
        List<String> want = Look.at(replayed(other), reading);
        for (int i = 0; i < want.size() && i < got.size(); i++) {
            if (got.get(i).equals(want.get(i))) continue;
            is("it changed " + want.get(i) + " to " + got.get(i), false);
            return;
        }
        is("nothing changed", got.size() == want.size());
    }

    private static DoorFleet replayed(Call last) {
        DoorFleet x = new DoorFleet();
        for (Call call : CALLS) call.on(x);
        last.on(x);
        return x;
    }

    static void is(String what, boolean so) {
        told(what, so ? 1 : 0, 1);
    }

    static void told(String what, long got, long want) {
        Check.due(got == want ? "" : line() + ": " + Doc.sentence() + (what.isEmpty() ? "" : ": " + what), got, want);
    }

    private static String line() {
        return StackWalker.getInstance().walk(all -> all.filter(f -> f.getClassName().endsWith("Test")).findFirst()
            .map(f -> f.getClassName() + " line " + f.getLineNumber()).orElse("?"));
    }
}
