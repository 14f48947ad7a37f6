import java.util.function.Supplier;

/** The boundary cases of promises 23 to 25: prices and kinds by told purses. */
public final class ToldPursesEdgesTest {
    private static final Edges EDGES = new Edges();

    public static void main(String[] args) {
        noSuchSheet();
        missing();
        noSuchOne();
        emptyAndFullSheets();
        fromNoPriceToAll();
        leastAndGreatestPrice();
        anyAndOthersBelow();
        numbersAreCut();
        placeOfThisDay();
        fromNoKindToAll();
        EDGES.finish();
    }

    private static void due(String call, long got, long want) {
        EDGES.due(call, got, want);
    }

    /** 23 to 25: BEYOND: no such sheet, whatever else is wrong. */
    private static void noSuchSheet() {
        EDGES.beyond("23: sheet", Scene::town, 0, 3, (x, v) -> x.fits(v, 0));
        EDGES.beyond("24: sheet", Scene::town, 0, 3, (x, v) -> x.paid(v, 0));
        EDGES.beyond("25: sheet", Scene::town, 0, 3, (x, v) -> x.kinds(v, 0));
        EDGES.beyond("23: sheet and one", Scene::town, 0, 3, (x, v) -> x.fits(v, 7));
        EDGES.beyond("24: sheet and one", Scene::town, 0, 3, (x, v) -> x.paid(v, 7));
        EDGES.beyond("25: sheet and one", Scene::town, 0, 3, (x, v) -> x.kinds(v, 7));
    }

    /** 23 to 25: MISSING, asked ahead of who. */
    private static void missing() {
        int[] people = {Integer.MIN_VALUE, -1, 0, 6, 7, Integer.MAX_VALUE};
        for (int p : people) {
            EDGES.refused("23: MISSING, one " + p, Scene::town, Finding.MISSING, x -> x.fits(2, p));
            EDGES.refused("24: MISSING, one " + p, Scene::town, Finding.MISSING, x -> x.paid(2, p));
            EDGES.refused("25: MISSING, one " + p, Scene::town, Finding.MISSING, x -> x.kinds(2, p));
        }
        for (int s = 0; s < 4; s++) {
            int sheet = s;
            EDGES.refused("23: MISSING at first", Scene::empty, Finding.MISSING, x -> x.fits(sheet, 0));
            EDGES.refused("24: MISSING at first", Scene::empty, Finding.MISSING, x -> x.paid(sheet, 0));
            EDGES.refused("25: MISSING at first", Scene::empty, Finding.MISSING, x -> x.kinds(sheet, 0));
        }
    }

    /** 23 to 25: BEYOND: no such one. */
    private static void noSuchOne() {
        EDGES.beyond("23: one of seven", Scene::town, 0, 6, (x, v) -> x.fits(1, v));
        EDGES.beyond("24: one of seven", Scene::town, 0, 6, (x, v) -> x.paid(1, v));
        EDGES.beyond("25: one of seven", Scene::town, 0, 6, (x, v) -> x.kinds(1, v));
        EDGES.beyond("23: one of eight", Scene::fullTown, 0, 7, (x, v) -> x.fits(3, v));
        EDGES.beyond("24: one of eight", Scene::fullTown, 0, 7, (x, v) -> x.paid(3, v));
        EDGES.beyond("25: one of eight", Scene::fullTown, 0, 7, (x, v) -> x.kinds(3, v));
        EDGES.asked("23: the last one", Scene::fullTown, 0, x -> x.fits(0, 7));
        EDGES.asked("25: the last one", Scene::fullTown, 0, x -> x.kinds(0, 7));
        EDGES.refused("24: the last one", Scene::fullTown, Finding.NONE, x -> x.paid(0, 7));
    }

    private static void dueFits(String name, Supplier<WinkPurses> town, int s, int person, int fits, int least) {
        EDGES.asked("23: " + name, town, fits, x -> x.fits(s, person));
        if (least == Finding.NONE) {
            EDGES.refused("24: " + name, town, Finding.NONE, x -> x.paid(s, person));
        } else {
            EDGES.asked("24: " + name, town, least, x -> x.paid(s, person));
        }
    }

    /** A PERSON with 20 SMALL winks whom no PAYMENT touches, and a sheet of its PURSES, but for one place. */
    private static WinkPurses told(int n, int wrongPlace) {
        WinkPurses x = Scene.two(20, 0);
        x.list(0, 7600);
        x.sheet(3, 8, n);
        for (int i = 0; i < n; i++) {
            x.write(3, i, i == wrongPlace ? 19 + i : 20 + i);
        }
        return x;
    }

    /** 23 to 25: now and behind each DAY further on: no number, one, and 40. */
    private static void emptyAndFullSheets() {
        int[] sizes = {0, 1, 2, 39, 40};
        for (int n : sizes) {
            dueFits("as told by " + n, () -> told(n, -1), 3, 0, 100, 0);
            EDGES.asked("25: as told by " + n, () -> told(n, -1), n < 2 ? 127 : n < 8 ? 1 + 4 + 8 + 16 : 1, x -> x.kinds(3, 0));
            if (n > 0) {
                dueFits("the last of " + n + " isn't so", () -> told(n, n - 1), 3, 0, 0, Finding.NONE);
                dueFits("the first of " + n + " isn't so", () -> told(n, 0), 3, 0, 0, Finding.NONE);
                EDGES.asked("25: the last of " + n + " isn't so", () -> told(n, n - 1),
                    n == 2 ? 2 + 32 : 0, x -> x.kinds(3, 0));
            }
        }
    }

    private static WinkPurses payer(int small, int... numbers) {
        WinkPurses x = Scene.two(small, 50);
        x.list(0, 150);
        Scene.tell(x, 0, 16, numbers);
        return x;
    }

    /** 23: how many PRICES: none, one, all but one, all. 24: NONE. */
    private static void fromNoPriceToAll() {
        dueFits("none", () -> payer(0, 0, 2), 0, 0, 0, Finding.NONE);
        dueFits("one", () -> payer(0, 0, 1), 0, 0, 1, 0);
        dueFits("99", () -> payer(0, 0, 0), 0, 0, 99, 1);
        dueFits("98", () -> payer(1, 1, 0), 0, 0, 98, 2);
        dueFits("all", () -> payer(0, 0, -1), 0, 0, 100, 0);
    }

    /** 23, 24: PRICES 0 to 99. */
    private static void leastAndGreatestPrice() {
        dueFits("the least", () -> payer(200, 200, 201), 0, 0, 1, 0);
        dueFits("the next", () -> payer(200, 200, 200), 0, 0, 1, 1);
        dueFits("the last but one", () -> payer(200, 200, 103), 0, 0, 1, 98);
        dueFits("the greatest", () -> payer(200, 200, 102), 0, 0, 1, 99);
        dueFits("one more would be", () -> payer(200, 200, 101), 0, 0, 0, Finding.NONE);
        dueFits("one less would be", () -> payer(200, 200, 202), 0, 0, 0, Finding.NONE);
    }

    /** 23: -1: any; and no other number below 0. */
    private static void anyAndOthersBelow() {
        dueFits("-1 now", () -> payer(200, -1, 102), 0, 0, 1, 99);
        dueFits("-1 later", () -> payer(200, 200, -1), 0, 0, 100, 0);
        dueFits("-2 now", () -> payer(200, -2, -1), 0, 0, 0, Finding.NONE);
        dueFits("-2 later", () -> payer(200, 200, -2), 0, 0, 0, Finding.NONE);
        dueFits("0 isn't any", () -> payer(200, 0, -1), 0, 0, 0, Finding.NONE);
        EDGES.asked("25: -1", () -> payer(200, -1, -1, -1), 127, x -> x.kinds(0, 0));
        EDGES.asked("25: -2", () -> payer(200, -1, -2, -1), 0, x -> x.kinds(0, 0));
        for (int bits = 8; bits <= 32; bits *= 2) {
            int b = bits;
            dueFits("any, of " + bits + " bits", () -> toldIn(b, -1, -1), 1, 0, 100, 0);
        }
    }

    private static WinkPurses toldIn(int bits, int... numbers) {
        WinkPurses x = Scene.two(numbers[0] < 0 ? 20 : Math.min(numbers[0], 999), 0);
        Scene.tell(x, 1, bits, numbers);
        return x;
    }

    /** 35: a number is its lowest bits: what doesn't fit isn't the PURSE. */
    private static void numbersAreCut() {
        dueFits("127 of 8 bits", () -> toldIn(8, 127), 1, 0, 100, 0);
        dueFits("128 of 8 bits", () -> toldIn(8, 128), 1, 0, 0, Finding.NONE);
        dueFits("256 of 8 bits", () -> toldIn(8, 256), 1, 0, 0, Finding.NONE);
        dueFits("256 of 16 bits", () -> toldIn(16, 256), 1, 0, 100, 0);
        dueFits("999 of 32 bits", () -> toldIn(32, 999), 1, 0, 100, 0);
        WinkPurses x = new WinkPurses();
        Scene.add(x, 0, 999, 999);
        x.set(0, 30);
        Scene.tell(x, 0, 16, 30969);
        due("23: the greatest PURSE of 16 bits", x.fits(0, 0), 100);
        Scene.tell(x, 0, 16, 65536 + 30969);
        due("23: and its lowest bits", x.fits(0, 0), 100);
        Scene.tell(x, 0, 32, 65536 + 30969);
        due("23: all 32 bits count", x.fits(0, 0), 0);
    }

    /** 23: the PAYMENT of this DAY, in each place, and again six DAYS later. */
    private static void placeOfThisDay() {
        for (int day = 0; day < 12; day++) {
            WinkPurses x = new WinkPurses();
            if (day > 0) {
                x.go(day);
            }
            x.person(1, 18);
            x.person(1, 0);
            for (int i = 0; i < 6; i++) {
                x.list(i, i == day % 6 ? 109 : 100);
            }
            Scene.tell(x, 0, 8, 18, -1, -1, -1, -1, -1, 15, 12);
            due("23: on DAY " + day, x.fits(0, 0), 1);
            due("24: on DAY " + day, x.paid(0, 0), 3);
            due("24: THE LIST stays", x.listed(day % 6), 109);
        }
    }

    private static WinkPurses oneOf(int small, int... numbers) {
        WinkPurses x = new WinkPurses();
        x.person(6, small);
        Scene.tell(x, 2, 8, numbers);
        return x;
    }

    /** 25: KINDS as a set: none, each bit, all; NONE is no finding here. */
    private static void fromNoKindToAll() {
        EDGES.asked("25: all", () -> oneOf(20, 20), 127, x -> x.kinds(2, 0));
        EDGES.asked("25: none", () -> oneOf(20, 21), 0, x -> x.kinds(2, 0));
        EDGES.asked("25: FORGER, the last", () -> oneOf(20, 20, 25), 64, x -> x.kinds(2, 0));
        EDGES.asked("25: KEEPER and CURATE", () -> oneOf(20, 20, 20), 34, x -> x.kinds(2, 0));
        EDGES.asked("25: PERSON, ELDER, MISER, JUDGE", () -> oneOf(20, 20, 21), 29, x -> x.kinds(2, 0));
        WinkPurses x = new WinkPurses();
        x.person(0, 60);
        x.person(0, 0);
        x.list(0, 110);
        int[] after = {51, 53, 42, 30, 61};
        int[] kinds = {1 + 2 + 4, 8, 16, 32, 64};
        for (int i = 0; i < after.length; i++) {
            Scene.tell(x, 2, 8, 60, after[i]);
            due("25: who has " + after[i] + " behind a PRICE of 10", x.kinds(2, 0), kinds[i]);
        }
        due("25: KIND stays", x.of(0, 0), 0);
    }
}
