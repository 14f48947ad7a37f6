import java.util.List;
import java.util.function.Supplier;
import java.util.function.ToLongFunction;

/** What the tests of boundary cases share: refused calls, and questions that change nothing. */
final class Edges {
    /** A call with one number that is tried on either side of a boundary. */
    interface Call {
        long on(WinkPurses x, int v);
    }

    private final Check check = new Check();

    void due(String call, long got, long want) {
        check.due(call, got, want);
    }

    void finish() {
        check.finish();
    }

    /** A refused call: its finding, what status() tells then, and that nothing else has changed. */
    void refused(String name, Supplier<WinkPurses> town, int finding, ToLongFunction<WinkPurses> call) {
        WinkPurses x = town.get();
        int[] status = statusOf(x);
        due(name, call.applyAsLong(x), finding);
        status[0]++;
        status[1 + Finding.BEYOND - finding]++;
        dueStatus(name, x, status);
        dueAlike(name, x, town.get());
    }

    /** BEYOND for the numbers next to those from the least to the most on either side, and for the outermost ones. */
    void beyond(String name, Supplier<WinkPurses> town, int least, int most, Call call) {
        int[] wrong = {Integer.MIN_VALUE, least - 1, most + 1, Integer.MAX_VALUE};
        for (int v : wrong) {
            refused(name + " with " + v, town, Finding.BEYOND, x -> call.on(x, v));
        }
    }

    /** A question: its answer, and that nothing has changed, not even what status() tells. */
    void asked(String name, Supplier<WinkPurses> town, long want, ToLongFunction<WinkPurses> call) {
        WinkPurses x = town.get();
        int[] status = statusOf(x);
        due(name, call.applyAsLong(x), want);
        dueStatus(name, x, status);
        dueAlike(name, x, town.get());
    }

    /** Numbers that are allowed: no finding for the least, the most and those next to them inside. */
    void allowed(String name, Supplier<WinkPurses> town, int least, int most, Call call) {
        int[] right = {least, Math.min(least + 1, most), Math.max(most - 1, least), most};
        for (int v : right) {
            WinkPurses x = town.get();
            int[] status = statusOf(x);
            long got = call.on(x, v);
            check.dueTrue(name + " with " + v + " answered " + got + ", a finding", got > -1000001L);
            dueStatus(name + " with " + v, x, status);
        }
    }

    void dueAlike(String name, WinkPurses x, WinkPurses y) {
        dueAlike(name, Told.by(x), Told.by(y));
    }

    void dueAlike(String name, List<String> got, List<String> want) {
        String other = "";
        for (int i = 0; i < want.size() && other.isEmpty(); i++) {
            if (!got.get(i).equals(want.get(i))) {
                other = got.get(i) + ", due is " + want.get(i);
            }
        }
        check.dueTrue(name + ": nothing else changes, but " + other, other.isEmpty());
    }

    /** What status() tells: all, then each finding by itself. */
    int[] statusOf(WinkPurses x) {
        int[] told = new int[8];
        for (int which = -1; which < 7; which++) {
            told[which + 1] = x.status(which);
        }
        return told;
    }

    void dueStatus(String name, WinkPurses x, int[] want) {
        int[] got = statusOf(x);
        for (int which = -1; which < 7; which++) {
            due(name + ": status(" + which + ") then", got[which + 1], want[which + 1]);
        }
    }
}
