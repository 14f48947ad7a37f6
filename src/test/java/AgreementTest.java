import java.lang.reflect.InvocationTargetException;
import java.lang.reflect.Method;
import java.util.ArrayList;
import java.util.Arrays;
import java.util.Comparator;
import java.util.List;
import java.util.Random;

/** Runs of drawn calls, at most 512 to an object, which the class and the oracle must answer alike. */
public final class AgreementTest {
    private static final int CALLS = 512;
    private static final int[] ODD = {
        Integer.MIN_VALUE, Integer.MIN_VALUE + 1, Integer.MAX_VALUE, Integer.MAX_VALUE - 1, -1000001, -65536, -129, -100,
        -9, -8, -2, -1, -1, -1, 10, 16, 19, 20, 21, 29, 30, 31, 32, 39, 40, 41, 49, 50, 59, 60, 61, 98, 99, 100, 101,
        119, 120, 121, 127, 128, 200, 201, 255, 256, 799, 800, 999, 1000, 7799, 7800, 9999, 10000, 32767, 65535, 99999,
    };
    private static final String[] WORDS = {
        "person", "keeper", "elder", "miser", "judge", "curate", "forger", "small", "slow", "owes", "pay", "rate", ";", "baby",
    };
    private static final Check CHECK = new Check();

    private final Random random;
    private final WinkPurses x = new WinkPurses();
    private final Oracle oracle = new Oracle();
    private final Method[] calls;
    private final String run;
    private final List<String> said = new ArrayList<>();
    private int left = CALLS;
    private boolean wrong = false;

    private AgreementTest(long seed) {
        random = new Random(seed);
        run = "run " + seed;
        calls = WinkPurses.class.getDeclaredMethods().clone();
        Arrays.sort(calls, Comparator.comparing(Method::getName));
    }

    public static void main(String[] args) throws ReflectiveOperationException {
        int runs = args.length > 1 ? Integer.parseInt(args[1]) : 400;
        int first = args.length > 2 ? Integer.parseInt(args[2]) : 1;
        for (int seed = first; seed < first + runs; seed++) {
            new AgreementTest(seed).go();
        }
        CHECK.finish();
    }

    private void go() throws ReflectiveOperationException {
        people();
        while (left > 0 && !wrong) {
            switch (random.nextInt(12)) {
                case 0: text(); break;
                case 1: purses(); break;
                case 2: payments(); break;
                case 3: people(); break;
                default: anyCall(); break;
            }
        }
    }

    private void anyCall() throws ReflectiveOperationException {
        Method method = calls[random.nextInt(calls.length)];
        if (!java.lang.reflect.Modifier.isPublic(method.getModifiers())) {
            return;
        }
        Object[] args = new Object[method.getParameterCount()];
        for (int i = 0; i < args.length; i++) {
            args[i] = anyNumber();
        }
        call(method, args);
    }

    private int anyNumber() {
        switch (random.nextInt(8)) {
            case 0: return ODD[random.nextInt(ODD.length)];
            case 1: return random.nextInt(100);
            case 2: return random.nextInt(1000);
            case 3: return random.nextInt(50) == 0 ? random.nextInt() : random.nextInt(10);
            default: return random.nextInt(5);
        }
    }

    private void call(String name, int... numbers) throws ReflectiveOperationException {
        Class<?>[] types = new Class<?>[numbers.length];
        Arrays.fill(types, int.class);
        call(WinkPurses.class.getDeclaredMethod(name, types), Arrays.stream(numbers).boxed().toArray());
    }

    private void call(Method method, Object[] args) throws ReflectiveOperationException {
        if (left == 0 || wrong) {
            return;
        }
        left--;
        String told = method.getName() + Arrays.toString(args);
        said.add(told);
        Method due = Oracle.class.getDeclaredMethod(method.getName(), method.getParameterTypes());
        long want = ((Number) due.invoke(oracle, args)).longValue();
        try {
            long got = ((Number) method.invoke(x, args)).longValue();
            wrong = got != want;
            CHECK.due(run + ": " + told, got, want);
        } catch (InvocationTargetException e) {
            wrong = true;
            CHECK.dueTrue(run + ": " + told + " threw " + e.getCause(), false);
        }
        if (wrong) {
            System.out.println("  behind " + said);
        }
    }

    private void people() throws ReflectiveOperationException {
        int people = 1 + random.nextInt(5);
        for (int i = 0; i < people; i++) {
            call("person", random.nextInt(7), random.nextInt(random.nextBoolean() ? 60 : 1000));
        }
        for (int i = 0; i < 4; i++) {
            int what = 1 + random.nextInt(5);
            int most = new int[] {0, 999, 999, 9999, 99, 9999}[what];
            int v = random.nextInt(3) == 0 ? most - random.nextInt(5) : random.nextInt(most / 10 + 1);
            call("change", random.nextInt(8), what, what == 4 ? 46 + random.nextInt(6) : v);
        }
    }

    private void payments() throws ReflectiveOperationException {
        for (int i = 0; i < 6; i++) {
            call("list", i, 1000 * random.nextInt(6) + 100 * random.nextInt(6) + random.nextInt(random.nextBoolean() ? 100 : 20));
        }
        if (random.nextInt(3) == 0) {
            call("set", 0, 2 + random.nextInt(29));
        }
    }

    /** A sheet that tells what one's purse will be, by and large, and what fits it. */
    private void purses() throws ReflectiveOperationException {
        int s = random.nextInt(4);
        int person = random.nextInt(6);
        int n = random.nextInt(10);
        call("sheet", s, 8 << random.nextInt(3), n);
        for (int i = 0; i < n; i++) {
            int purse = oracle.count(1) > person ? oracle.ahead(person, 6, i) : 7;
            call("write", s, i, random.nextInt(3) == 0 ? -1 : random.nextInt(40) == 0 ? purse + 1 : purse);
        }
        if (random.nextBoolean()) {
            call("list", oracle.now(0) % 6, 1000 * random.nextInt(6) + 100 * random.nextInt(6) + random.nextInt(100));
        }
        call("fits", s, person);
        call("paid", s, person);
        call("kinds", s, person);
    }

    private void text() throws ReflectiveOperationException {
        call("wipe");
        byte[] bytes = anyText().getBytes(java.nio.charset.StandardCharsets.ISO_8859_1);
        int place = 0;
        while (place < bytes.length) {
            int n = Math.min(1 + random.nextInt(4), bytes.length - place);
            int number = random.nextInt();
            for (int i = 0; i < n; i++) {
                number = number << 8 | bytes[place + i] & 0xff;
            }
            call("feed", number, n);
            place += n;
        }
        call("text");
    }

    private String anyText() {
        StringBuilder text = new StringBuilder();
        int items = 1 + random.nextInt(5);
        for (int i = 0; i < items; i++) {
            text.append(i == 0 ? "" : random.nextBoolean() ? ";" : " ; ").append(anyItem());
        }
        if (random.nextInt(3) == 0 && text.length() > 0) {
            spoil(text);
        }
        return text.toString();
    }

    private String anyItem() {
        switch (random.nextInt(3)) {
            case 0: return "rate " + (random.nextInt(10) == 0 ? random.nextInt(40) : 2 + random.nextInt(29));
            case 1: return "pay " + random.nextInt(6) + " " + random.nextInt(8) + " " + random.nextInt(8) + " "
                + (random.nextInt(10) == 0 ? random.nextInt(120) : random.nextInt(100));
            default:
                String item = WORDS[random.nextInt(7)];
                item += random.nextBoolean() ? " small" + (random.nextBoolean() ? " " : "") + random.nextInt(1010) : "";
                item += random.nextBoolean() ? " slow " + random.nextInt(random.nextBoolean() ? 20 : 1010) : "";
                item += random.nextBoolean() ? " owes 00" + random.nextInt(random.nextBoolean() ? 20 : 10100) : "";
                return item;
        }
    }

    private void spoil(StringBuilder text) {
        int place = random.nextInt(text.length());
        switch (random.nextInt(5)) {
            case 0: text.insert(place, (char) random.nextInt(256)); break;
            case 1: text.deleteCharAt(place); break;
            case 2: text.setLength(place); break;
            case 3: text.insert(place, " " + WORDS[random.nextInt(WORDS.length)] + " "); break;
            default: text.insert(place, random.nextInt(100)); break;
        }
    }
}
