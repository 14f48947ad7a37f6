/** The boundary cases of promises 10 to 16: days, and what will be. */
public final class DaysEdgesTest {
    private static final Edges EDGES = new Edges();

    public static void main(String[] args) {
        goFromOneToSixty();
        goIsDayByDay();
        nowFromNoneToSeven();
        nowOfNobody();
        nowAtTheMost();
        whoHasADebt();
        theRichest();
        aheadWhomAndWhat();
        aheadFromNoneToAHundred();
        richWhomAndWhat();
        richWithin200Days();
        richTheFewest();
        richWhateverItOwes();
        owesWhom();
        owesWithin200Days();
        owesTheFewest();
        evenWithin200Days();
        evenTheFewest();
        evenOfEight();
        forgedFromNoneTo9999();
        forgedWithin200Days();
        EDGES.finish();
    }

    private static void due(String call, long got, long want) {
        EDGES.due(call, got, want);
    }

    /** 10: n DAYS (1 to 60). */
    private static void goFromOneToSixty() {
        EDGES.beyond("10: n", Scene::town, 1, 60, (x, v) -> x.go(v));
        EDGES.refused("10: n -60", Scene::town, Finding.BEYOND, x -> x.go(-60));
        int[] days = {1, 2, 59, 60};
        for (int n : days) {
            WinkPurses x = Scene.two(20, 30);
            due("10: go(" + n + ")", x.go(n), 50 + 2 * n);
            due("10: DAY", x.now(0), n);
            due("10: DAY as counted", x.count(0), n);
            due("10: PURSES of all together", x.now(1), 50 + 2 * n);
        }
        EDGES.allowed("10: n", Scene::town, 1, 60, (x, v) -> x.go(v));
        due("10: PURSES of nobody", new WinkPurses().go(60), 0);
    }

    private static void goIsDayByDay() {
        WinkPurses x = Scene.town();
        WinkPurses y = Scene.town();
        x.go(60);
        for (int i = 0; i < 60; i++) {
            y.go(1);
        }
        EDGES.dueAlike("10: sixty at once and one by one", x, y);
        WinkPurses z = new WinkPurses();
        for (int i = 0; i < 511; i++) {
            z.go(60);
        }
        due("10: the last DAY that 512 calls can tell of", z.now(0), 30660);
    }

    /** 11: what 0 to 7. */
    private static void nowFromNoneToSeven() {
        EDGES.beyond("11: what", Scene::town, 0, 7, (x, v) -> x.now(v));
        EDGES.beyond("11: what of nobody", Scene::empty, 0, 7, (x, v) -> x.now(v));
        int[] want = {2, 42 + 39 + 20, 12, 77, 5, 0, 10, 19};
        for (int i = 0; i < 8; i++) {
            int what = i;
            EDGES.asked("11: now(" + what + ")", DaysEdgesTest::three, want[what], x -> x.now(what));
        }
    }

    private static WinkPurses three() {
        WinkPurses x = new WinkPurses();
        x.go(2);
        Scene.add(x, 0, 4, 2, 7, 1, 9);
        Scene.add(x, 1, 1, 2, 0, 4, 0);
        Scene.add(x, 5, 20, 0, 5, 5, 10);
        x.set(1, 77);
        return x;
    }

    /** 11: nobody. */
    private static void nowOfNobody() {
        int[] want = {0, 0, 0, 0, 0, -1, 0, 0};
        for (int i = 0; i < 8; i++) {
            int what = i;
            EDGES.asked("11: now(" + what + ") of nobody", Scene::empty, want[what], x -> x.now(what));
        }
    }

    /** 11: eight who have all they can. */
    private static void nowAtTheMost() {
        WinkPurses x = new WinkPurses();
        x.set(0, 30);
        x.set(1, 9999);
        for (int p = 0; p < 8; p++) {
            Scene.add(x, 3, 999, 999, 9999, 99, 9999);
        }
        int[] want = {0, 247752, 79992, 9999, 255, 0, 792, 79992};
        for (int what = 0; what < 8; what++) {
            due("11: now(" + what + ") at the most", x.now(what), want[what]);
        }
        due("42: PURSES at the most", x.count(2), 247752);
        due("42: DEBTS at the most", x.count(3), 79992);
    }

    /** 11: who has a DEBT, as a set. */
    private static void whoHasADebt() {
        for (int p = 0; p < 8; p++) {
            WinkPurses x = eight();
            due("11: nobody owes", x.now(4), 0);
            x.change(p, 3, 1);
            due("11: " + p + " owes 1", x.now(4), 1 << p);
            x.change(7 - p, 3, 9999);
            due("11: " + p + " and " + (7 - p), x.now(4), 1 << p | 128 >> p);
            x.change(p, 3, 0);
            due("11: " + (7 - p) + " alone", x.now(4), 128 >> p);
        }
    }

    /** 11: the richest by PURSE; of several the least number. */
    private static void theRichest() {
        WinkPurses x = new WinkPurses();
        x.person(0, 0);
        due("11: one with nothing", x.now(5), 0);
        x.person(0, 0);
        due("11: two with nothing", x.now(5), 0);
        x.person(0, 19);
        due("11: one with more", x.now(5), 2);
        Scene.add(x, 0, 0, 1);
        due("11: as much in a SLOW one", x.now(5), 2);
        x.change(3, 1, 1);
        due("11: one more", x.now(5), 3);
        x.set(0, 18);
        due("11: as much by another RATE", x.now(5), 2);
        x.change(0, 1, 19);
        due("11: the least of three", x.now(5), 0);
        x.change(0, 3, 9999);
        due("11: a DEBT is none of its PURSE", x.now(5), 0);
        for (int p = 0; p < 8; p++) {
            WinkPurses y = eight();
            y.change(p, 1, 10);
            due("11: " + p + " of eight", y.now(5), p);
        }
    }

    private static WinkPurses eight() {
        WinkPurses x = new WinkPurses();
        for (int p = 0; p < 8; p++) {
            x.person(0, 9);
        }
        return x;
    }

    /** 12: whom, what 1 to 6, n 0 to 100. */
    private static void aheadWhomAndWhat() {
        EDGES.beyond("12: one of seven", Scene::town, 0, 6, (x, v) -> x.ahead(v, 1, 1));
        EDGES.beyond("12: one of eight", Scene::fullTown, 0, 7, (x, v) -> x.ahead(v, 1, 1));
        EDGES.refused("12: one of none", Scene::empty, Finding.BEYOND, x -> x.ahead(0, 1, 0));
        EDGES.beyond("12: what", Scene::town, 1, 6, (x, v) -> x.ahead(3, v, 1));
        EDGES.beyond("12: n", Scene::town, 0, 100, (x, v) -> x.ahead(3, 1, v));
        EDGES.refused("12: EARNS", Scene::town, Finding.BEYOND, x -> x.ahead(3, 7, 1));
        EDGES.refused("12: KIND", Scene::town, Finding.BEYOND, x -> x.ahead(3, 0, 1));
    }

    /** 12: as of() tells behind n DAYS; nothing changes. */
    private static void aheadFromNoneToAHundred() {
        int[] days = {0, 1, 2, 59, 60, 61, 99, 100};
        for (int n : days) {
            WinkPurses y = Scene.fullTown();
            int first = Math.min(n, 60);
            if (first > 0) {
                y.go(first);
            }
            if (n > first) {
                y.go(n - first);
            }
            WinkPurses x = Scene.fullTown();
            int[] status = EDGES.statusOf(x);
            for (int p = 0; p < 8; p++) {
                for (int what = 1; what <= 6; what++) {
                    due("12: ahead(" + p + ", " + what + ", " + n + ")", x.ahead(p, what, n), y.of(p, what));
                }
            }
            EDGES.dueStatus("12: behind " + n, x, status);
            EDGES.dueAlike("12: behind " + n, x, Scene.fullTown());
        }
    }

    /** 13: whom, v 0 to 9999. */
    private static void richWhomAndWhat() {
        EDGES.beyond("13: one of seven", Scene::town, 0, 6, (x, v) -> x.rich(v, 0));
        EDGES.beyond("13: one of eight", Scene::fullTown, 0, 7, (x, v) -> x.rich(v, 0));
        EDGES.refused("13: one of none", Scene::empty, Finding.BEYOND, x -> x.rich(0, 0));
        EDGES.beyond("13: v", Scene::town, 0, 9999, (x, v) -> x.rich(3, v));
        EDGES.asked("13: v 0", () -> Scene.two(0, 0), 0, x -> x.rich(1, 0));
        EDGES.refused("13: v 9999", Scene::town, Finding.NONE, x -> x.rich(3, 9999));
        WinkPurses x = new WinkPurses();
        Scene.add(x, 0, 498, 500);
        due("13: PURSE", x.of(0, 6), 9998);
        due("13: 9998", x.rich(0, 9998), 0);
        due("13: 9999", x.rich(0, 9999), 1);
        x.change(0, 1, 499);
        due("13: 9999 now", x.rich(0, 9999), 0);
        x.change(0, 1, 500);
        due("13: more than 9999 now", x.rich(0, 9999), 0);
    }

    /** 13: behind how many DAYS (0 to 200). NONE. */
    private static void richWithin200Days() {
        EDGES.asked("13: now", () -> Scene.two(20, 30), 0, x -> x.rich(0, 20));
        EDGES.asked("13: less", () -> Scene.two(20, 30), 0, x -> x.rich(0, 19));
        EDGES.asked("13: one more", () -> Scene.two(20, 30), 1, x -> x.rich(0, 21));
        EDGES.asked("13: 199 DAYS", () -> Scene.two(20, 30), 199, x -> x.rich(1, 229));
        EDGES.asked("13: 200 DAYS", () -> Scene.two(20, 30), 200, x -> x.rich(1, 230));
        EDGES.refused("13: 201 DAYS", () -> Scene.two(20, 30), Finding.NONE, x -> x.rich(1, 231));
        WinkPurses x = Scene.two(20, 30);
        x.go(1);
        due("13: 200 DAYS from the next one", x.rich(1, 231), 200);
    }

    /** 13: the fewest. */
    private static void richTheFewest() {
        WinkPurses x = Scene.two(10, 0);
        x.list(1, 105);
        due("13: the first time of two", x.rich(0, 11), 1);
        due("13: 12", x.rich(0, 12), 7);
        due("13: 10 now, and less later", x.rich(0, 10), 0);
    }

    /** 13: PURSE is SMALL and RATE times SLOW, and no less for a DEBT. */
    private static void richWhateverItOwes() {
        WinkPurses x = new WinkPurses();
        Scene.add(x, 0, 0, 2, 3);
        due("13: 38 now, though it owes 3", x.rich(0, 38), 0);
        due("13: what it EARNS for 3 DAYS it repays", x.rich(0, 39), 4);
        x.change(0, 3, 9999);
        due("13: 38 now, though it owes 9999", x.rich(0, 38), 0);
        due("13: never more then", x.rich(0, 39), Finding.NONE);
    }

    /** 14: whom. */
    private static void owesWhom() {
        EDGES.beyond("14: one of seven", Scene::town, 0, 6, (x, v) -> x.owes(v));
        EDGES.beyond("14: one of eight", Scene::fullTown, 0, 7, (x, v) -> x.owes(v));
        EDGES.refused("14: one of none", Scene::empty, Finding.BEYOND, x -> x.owes(0));
        EDGES.refused("14: NONE", () -> Scene.two(0, 0), Finding.NONE, x -> x.owes(1));
    }

    /** A KEEPER who earns nothing and pays 1 on every sixth DAY from a place on. */
    private static WinkPurses payer(int small, int place) {
        WinkPurses x = new WinkPurses();
        x.person(1, small);
        x.person(1, 0);
        x.list(place, 101);
        return x;
    }

    /** 14: behind how many DAYS (0 to 200). NONE. */
    private static void owesWithin200Days() {
        EDGES.asked("14: the 1st payment, on DAY 0", () -> payer(0, 0), 1, x -> x.owes(0));
        EDGES.asked("14: the 34th payment, on DAY 198", () -> payer(33, 0), 199, x -> x.owes(0));
        EDGES.asked("14: the 34th payment, on DAY 199", () -> payer(33, 1), 200, x -> x.owes(0));
        EDGES.refused("14: the 34th payment, on DAY 200", () -> payer(33, 2), Finding.NONE, x -> x.owes(0));
        EDGES.refused("14: the 35th payment", () -> payer(34, 1), Finding.NONE, x -> x.owes(0));
        WinkPurses x = payer(33, 2);
        x.go(1);
        due("14: 200 DAYS from the next one", x.owes(0), 200);
        WinkPurses y = payer(33, 1);
        y.change(0, 3, 1);
        due("14: a DEBT of 1 now", y.owes(0), 0);
        due("14: the other one's DEBT", y.owes(1), Finding.NONE);
    }

    /** 14: the fewest. */
    private static void owesTheFewest() {
        WinkPurses x = Scene.two(0, 0);
        x.list(1, 106);
        due("14: a DEBT that comes, goes and comes again", x.owes(0), 2);
        due("14: it comes", x.ahead(0, 3, 2), 4);
        due("14: it went", x.ahead(0, 3, 6), 0);
        due("14: it comes again", x.ahead(0, 3, 8), 4);
        x.list(1, 109);
        due("14: a DEBT that comes and stays", x.owes(0), 2);
        x.change(0, 3, 1);
        due("14: a DEBT now that goes", x.owes(0), 0);
        due("14: it went", x.ahead(0, 3, 1), 0);
    }

    private static WinkPurses debtors(int first, int second) {
        WinkPurses x = Scene.two(0, 0);
        x.change(0, 3, first);
        x.change(1, 3, second);
        return x;
    }

    /** 15: behind how many DAYS (0 to 200) nobody has a DEBT. NONE. */
    private static void evenWithin200Days() {
        EDGES.asked("15: nobody", Scene::empty, 0, x -> x.even());
        EDGES.asked("15: nobody owes", () -> debtors(0, 0), 0, x -> x.even());
        EDGES.asked("15: the first owes 1", () -> debtors(1, 0), 1, x -> x.even());
        EDGES.asked("15: the last owes 1", () -> debtors(0, 1), 1, x -> x.even());
        EDGES.asked("15: both owe", () -> debtors(5, 199), 199, x -> x.even());
        EDGES.asked("15: 200 DAYS", () -> debtors(200, 7), 200, x -> x.even());
        EDGES.asked("15: 200 DAYS, the last", () -> debtors(7, 200), 200, x -> x.even());
        EDGES.refused("15: 201 DAYS", () -> debtors(201, 7), Finding.NONE, x -> x.even());
        EDGES.refused("15: 201 DAYS, the last", () -> debtors(0, 201), Finding.NONE, x -> x.even());
        EDGES.refused("15: never", () -> debtors(9999, 9999), Finding.NONE, x -> x.even());
    }

    /** 15: the fewest. */
    private static void evenTheFewest() {
        WinkPurses x = debtors(1, 0);
        x.list(2, 150);
        due("15: even, and then not", x.even(), 1);
        due("15: not then", x.ahead(0, 3, 3), 48);
        x.change(0, 3, 2);
        due("15: even one DAY later", x.even(), 2);
        x.change(0, 3, 3);
        due("15: not ahead of the payment", x.even(), Finding.NONE);
    }

    /** 15: nobody, of eight, has a DEBT. */
    private static void evenOfEight() {
        EDGES.asked("15: nobody of eight owes", DaysEdgesTest::eight, 0, x -> x.even());
        for (int p = 0; p < 8; p++) {
            WinkPurses x = eight();
            x.change(p, 3, 12);
            due("15: " + p + " of eight owes", x.even(), 3);
            x.change(7 - p, 3, 11);
            due("15: and " + (7 - p), x.even(), 3);
            x.change(p, 3, 210);
            due("15: " + p + " owes too much", x.even(), Finding.NONE);
        }
    }

    private static WinkPurses forgers(int first, int people) {
        WinkPurses x = new WinkPurses();
        x.set(1, first);
        for (int p = 0; p < people; p++) {
            x.person(6, 0);
        }
        return x;
    }

    /** 16: v, 0 to 9999. */
    private static void forgedFromNoneTo9999() {
        EDGES.beyond("16: v", Scene::town, 0, 9999, (x, v) -> x.forged(v));
        EDGES.beyond("16: v with nobody", Scene::empty, 0, 9999, (x, v) -> x.forged(v));
        EDGES.asked("16: 0", Scene::empty, 0, x -> x.forged(0));
        EDGES.asked("16: 9999 now", () -> forgers(9999, 0), 0, x -> x.forged(9999));
        EDGES.asked("16: 9998 of 9999", () -> forgers(9999, 0), 0, x -> x.forged(9998));
        EDGES.refused("16: 9999 of 9998", () -> forgers(9998, 0), Finding.NONE, x -> x.forged(9999));
        EDGES.asked("16: 9999 of 9998 by a FORGER", () -> forgers(9998, 1), 1, x -> x.forged(9999));
    }

    /** 16: behind how many DAYS (0 to 200). NONE. */
    private static void forgedWithin200Days() {
        EDGES.asked("16: as many as there are", () -> forgers(7, 1), 0, x -> x.forged(7));
        EDGES.asked("16: one more", () -> forgers(7, 1), 1, x -> x.forged(8));
        EDGES.asked("16: five more", () -> forgers(7, 1), 1, x -> x.forged(12));
        EDGES.asked("16: six more", () -> forgers(7, 1), 2, x -> x.forged(13));
        EDGES.asked("16: six more by two", () -> forgers(7, 2), 1, x -> x.forged(13));
        EDGES.asked("16: 199 DAYS", () -> forgers(0, 1), 199, x -> x.forged(995));
        EDGES.asked("16: 200 DAYS", () -> forgers(0, 1), 200, x -> x.forged(1000));
        EDGES.refused("16: 201 DAYS", () -> forgers(0, 1), Finding.NONE, x -> x.forged(1001));
        EDGES.asked("16: 9999 in 200 DAYS", () -> forgers(8999, 1), 200, x -> x.forged(9999));
        EDGES.refused("16: 9999 in 201 DAYS", () -> forgers(8998, 1), Finding.NONE, x -> x.forged(9999));
        EDGES.asked("16: eight FORGERS", () -> forgers(1999, 8), 200, x -> x.forged(9999));
    }
}
