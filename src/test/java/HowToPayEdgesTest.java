/** The boundary cases of promises 17 to 22: how to pay. */
public final class HowToPayEdgesTest {
    private static final Edges EDGES = new Edges();

    public static void main(String[] args) {
        priceForPlaceAndDays();
        priceForFromNoneTo99();
        priceForOneAndTheSame();
        priceForNobody();
        priceForSixtyDays();
        rateForDays();
        rateForFromTwoTo30();
        rateForAllTogether();
        kindForWhomAndDays();
        kindForTheLeast();
        kindForOnesOwnPurse();
        smallForWhomAndDays();
        smallForFromNoneTo999();
        smallForFortyDays();
        smallForWithGaps();
        strikeDays();
        strikeFromNobodyOn();
        strikeTwentyDays();
        coinsFromNoneTo9999();
        coinsAreTheFewest();
        EDGES.finish();
    }

    private static void due(String call, long got, long want) {
        EDGES.due(call, got, want);
    }

    private static WinkPurses payerHas(int small, int debt) {
        WinkPurses x = Scene.two(small, 0);
        x.change(0, 3, debt);
        x.list(0, 150);
        return x;
    }

    /** 17: place i (0 to 5), n (0 to 60). */
    private static void priceForPlaceAndDays() {
        EDGES.beyond("17: place", Scene::town, 0, 5, (x, v) -> x.priceFor(v, 1));
        EDGES.beyond("17: n", Scene::town, 0, 60, (x, v) -> x.priceFor(0, v));
        EDGES.beyond("17: place with nobody", Scene::empty, 0, 5, (x, v) -> x.priceFor(v, 1));
        EDGES.beyond("17: n with nobody", Scene::empty, 0, 60, (x, v) -> x.priceFor(0, v));
        EDGES.allowed("17: place", Scene::empty, 0, 5, (x, v) -> x.priceFor(v, 1));
        EDGES.allowed("17: n", Scene::empty, 0, 60, (x, v) -> x.priceFor(0, v));
    }

    /** 17: the greatest PRICE (0 to 99). NONE. */
    private static void priceForFromNoneTo99() {
        EDGES.asked("17: 99 and one to spare", () -> payerHas(99, 0), 99, x -> x.priceFor(0, 1));
        EDGES.asked("17: 99, with the one it EARNS", () -> payerHas(98, 0), 99, x -> x.priceFor(0, 1));
        EDGES.asked("17: 98", () -> payerHas(97, 0), 98, x -> x.priceFor(0, 1));
        EDGES.asked("17: 1", () -> payerHas(0, 0), 1, x -> x.priceFor(0, 1));
        EDGES.asked("17: 0", () -> payerHas(0, 1), 0, x -> x.priceFor(0, 1));
        EDGES.refused("17: NONE", () -> payerHas(0, 2), Finding.NONE, x -> x.priceFor(0, 1));
        EDGES.asked("17: no DAY, no DEBT", () -> payerHas(0, 0), 99, x -> x.priceFor(0, 0));
        EDGES.refused("17: no DAY, a DEBT", () -> payerHas(999, 1), Finding.NONE, x -> x.priceFor(0, 0));
        EDGES.asked("17: another place is not yet paid", () -> payerHas(999, 0), 99, x -> x.priceFor(5, 5));
    }

    /** 17: a PAYMENT of one to the same one: no PRICE is paid, whatever it is. */
    private static void priceForOneAndTheSame() {
        WinkPurses x = Scene.two(0, 100);
        x.list(0, 1150);
        due("17: one who pays itself", x.priceFor(0, 60), 99);
        x.change(0, 3, 50);
        due("17: and so no DEBT is paid by it", x.priceFor(0, 1), Finding.NONE);
    }

    /** 17: nobody has a DEBT: PAYEE and others neither. */
    private static void priceForNobody() {
        WinkPurses x = payerHas(50, 0);
        x.change(1, 3, 6);
        due("17: the greatest of 5 to 51", x.priceFor(0, 1), 51);
        x.change(0, 1, 5);
        due("17: 5 and 6 will do", x.priceFor(0, 1), 6);
        x.change(0, 1, 7);
        x.change(1, 3, 8);
        due("17: 7 and 8 will do", x.priceFor(0, 1), 8);
        x.change(1, 3, 6);
        x.change(0, 1, 4);
        due("17: too little for PAYEE's DEBT", x.priceFor(0, 1), Finding.NONE);
        x.change(1, 3, 0);
        due("17: PAYEE owes nothing", x.priceFor(0, 1), 5);
        x.person(0, 0);
        x.change(2, 3, 2);
        due("17: a third one owes", x.priceFor(0, 1), Finding.NONE);
        due("17: not for long", x.priceFor(0, 2), 6);
    }

    private static WinkPurses keeper(int small, int place, int price) {
        WinkPurses x = new WinkPurses();
        x.person(1, small);
        x.person(1, 0);
        x.list(place, 100 + price);
        return x;
    }

    /** Ten payments of place 5 within 60 DAYS, nine within 59. */
    private static void priceForSixtyDays() {
        EDGES.asked("17: 59 DAYS", () -> keeper(90, 5, 50), 11, x -> x.priceFor(5, 59));
        EDGES.asked("17: 60 DAYS", () -> keeper(90, 5, 50), 10, x -> x.priceFor(5, 60));
    }

    /** 18: n (0 to 60). */
    private static void rateForDays() {
        EDGES.beyond("18: n", Scene::town, 0, 60, (x, v) -> x.rateFor(v));
        EDGES.beyond("18: n with nobody", Scene::empty, 0, 60, (x, v) -> x.rateFor(v));
        EDGES.allowed("18: n", Scene::town, 0, 60, (x, v) -> x.rateFor(v));
        EDGES.asked("18: nobody, no DAY", Scene::empty, 2, x -> x.rateFor(0));
        EDGES.asked("18: nobody, 60 DAYS", Scene::empty, 2, x -> x.rateFor(60));
    }

    private static WinkPurses judge(int small, int slow, int price) {
        WinkPurses x = new WinkPurses();
        Scene.add(x, 4, small, slow);
        x.person(0, 0);
        x.list(0, 100 + price);
        return x;
    }

    /** 18: the RATE (2 to 30) with which PURSES are most; of several the least. */
    private static void rateForFromTwoTo30() {
        EDGES.asked("18: no SLOW one: all are alike", () -> Scene.two(5, 5), 2, x -> x.rateFor(0));
        EDGES.asked("18: a SLOW one", () -> judge(0, 1, 0), 30, x -> x.rateFor(0));
        EDGES.asked("18: PRICE 1: the less RATE, the better", () -> judge(30, 0, 1), 2, x -> x.rateFor(1));
        EDGES.asked("18: a SLOW one for RATE: all are alike", () -> judge(0, 1, 1), 2, x -> x.rateFor(1));
        EDGES.asked("18: a SLOW one, less 1", () -> judge(20, 1, 5), 3, x -> x.rateFor(1));
        EDGES.asked("18: a SLOW one, less 27", () -> judge(40, 1, 31), 29, x -> x.rateFor(1));
        EDGES.asked("18: a SLOW one, less 28", () -> judge(40, 1, 32), 30, x -> x.rateFor(1));
        EDGES.asked("18: a SLOW one, less 29", () -> judge(40, 1, 33), 30, x -> x.rateFor(1));
    }

    /** 18: PURSES of all together: neither the richest one's alone, nor less what they owe. */
    private static void rateForAllTogether() {
        WinkPurses x = judge(100, 0, 1);
        x.change(1, 1, 200);
        x.change(1, 2, 1);
        for (int rate = 2; rate <= 30; rate++) {
            WinkPurses y = judge(100, 0, 1);
            y.change(1, 1, 200);
            y.change(1, 2, 1);
            y.set(0, rate);
            due("18: PURSES by " + rate, y.go(1), 303);
            due("18: the richest by " + rate, y.of(1, 6), 202 + rate);
        }
        due("18: what the richest has more the JUDGE has less", x.rateFor(1), 2);
        WinkPurses z = judge(0, 0, 1);
        z.change(1, 2, 1);
        due("18: whatever the JUDGE owes", z.rateFor(1), 30);
        z.set(0, 30);
        due("18: PURSES by 30", z.go(1), 31);
        due("18: what the JUDGE owes by 30", z.now(2), 29);
    }

    /** 19: whom, n (0 to 60). */
    private static void kindForWhomAndDays() {
        EDGES.beyond("19: one of seven", Scene::town, 0, 6, (x, v) -> x.kindFor(v, 1));
        EDGES.beyond("19: one of eight", Scene::fullTown, 0, 7, (x, v) -> x.kindFor(v, 1));
        EDGES.refused("19: one of none", Scene::empty, Finding.BEYOND, x -> x.kindFor(0, 0));
        EDGES.beyond("19: n", Scene::town, 0, 60, (x, v) -> x.kindFor(3, v));
        EDGES.allowed("19: n", Scene::town, 0, 60, (x, v) -> x.kindFor(3, v));
        EDGES.allowed("19: whom", Scene::fullTown, 0, 7, (x, v) -> x.kindFor(v, 1));
    }

    private static WinkPurses one(int small, int slow) {
        WinkPurses x = new WinkPurses();
        Scene.add(x, 5, small, slow);
        return x;
    }

    /** 19: the KIND with which PURSE is most; of several the least. */
    private static void kindForTheLeast() {
        EDGES.asked("19: no DAY: all are alike", () -> one(5, 5), 0, x -> x.kindFor(0, 0));
        EDGES.asked("19: a FORGER, the last kind", () -> one(5, 5), 6, x -> x.kindFor(0, 1));
        EDGES.asked("19: a MISER and a JUDGE EARN as much as a FORGER", () -> one(0, 40), 3, x -> x.kindFor(0, 1));
        EDGES.asked("19: a MISER and a JUDGE EARN one less", () -> one(0, 39), 6, x -> x.kindFor(0, 1));
        EDGES.asked("19: a JUDGE, by the bank", () -> one(19, 59), 4, x -> x.kindFor(0, 2));
        EDGES.asked("19: a JUDGE, not yet", () -> one(19, 59), 3, x -> x.kindFor(0, 1));
        EDGES.asked("19: nothing can be more", () -> one(999, 999), 0, x -> x.kindFor(0, 60));
    }

    /** 19: its PURSE: neither those of all together, nor less what it owes. */
    private static void kindForOnesOwnPurse() {
        int[] debts = {98, 90, 98, 96, 96, 297, 40};
        int[] others = {1, 10, 1, 3, 3, 1, 55};
        for (int kind = 0; kind < 7; kind++) {
            WinkPurses y = Scene.two(0, 0);
            y.list(0, 199);
            y.change(0, 0, kind);
            y.go(1);
            due("19: PURSE of kind " + kind, y.of(0, 6), 0);
            due("19: DEBT of kind " + kind, y.of(0, 3), debts[kind]);
            due("19: the other one's PURSE", y.of(1, 6), others[kind]);
        }
        WinkPurses x = Scene.two(0, 0);
        x.list(0, 199);
        due("19: a PURSE of nothing, whatever it owes", x.kindFor(0, 1), 0);
    }

    /** 20: whom, n (0 to 40). */
    private static void smallForWhomAndDays() {
        EDGES.beyond("20: one of seven", Scene::town, 0, 6, (x, v) -> x.smallFor(v, 1));
        EDGES.beyond("20: one of eight", Scene::fullTown, 0, 7, (x, v) -> x.smallFor(v, 1));
        EDGES.refused("20: one of none", Scene::empty, Finding.BEYOND, x -> x.smallFor(0, 0));
        EDGES.beyond("20: n", Scene::town, 0, 40, (x, v) -> x.smallFor(3, v));
        EDGES.allowed("20: n", () -> Scene.two(0, 0), 0, 40, (x, v) -> x.smallFor(1, v));
    }

    /** 20: the fewest SMALL winks (0 to 999). NONE. */
    private static void smallForFromNoneTo999() {
        EDGES.asked("20: none needed", () -> payerHas(500, 0), 0, x -> x.smallFor(1, 1));
        EDGES.asked("20: none, by the one it EARNS", () -> debtor(1), 0, x -> x.smallFor(0, 1));
        EDGES.asked("20: one", () -> debtor(2), 1, x -> x.smallFor(0, 1));
        EDGES.asked("20: 49", () -> payerHas(500, 0), 49, x -> x.smallFor(0, 1));
        EDGES.asked("20: 998", () -> payerHas(500, 949), 998, x -> x.smallFor(0, 1));
        EDGES.asked("20: 999", () -> payerHas(500, 950), 999, x -> x.smallFor(0, 1));
        EDGES.refused("20: 1000", () -> payerHas(500, 951), Finding.NONE, x -> x.smallFor(0, 1));
        EDGES.asked("20: no DAY, no DEBT", () -> payerHas(500, 0), 0, x -> x.smallFor(0, 0));
        EDGES.refused("20: no DAY, a DEBT", () -> payerHas(500, 1), Finding.NONE, x -> x.smallFor(0, 0));
        WinkPurses y = payerHas(0, 0);
        y.change(1, 3, 9999);
        due("20: another one's DEBT doesn't count", y.smallFor(0, 1), 49);
        y.change(0, 2, 2);
        due("20: two SLOW ones do", y.smallFor(0, 1), 11);
        y.change(0, 2, 3);
        due("20: three SLOW ones are enough", y.smallFor(0, 1), 0);
        y.change(1, 2, 999);
        due("20: another one's SLOW ones don't", y.smallFor(1, 1), Finding.NONE);
    }

    private static WinkPurses debtor(int debt) {
        WinkPurses x = new WinkPurses();
        Scene.add(x, 0, 500, 0, debt);
        return x;
    }

    /** Seven payments of place 3 within 40 DAYS, six within 39. */
    private static void smallForFortyDays() {
        EDGES.asked("20: 39 DAYS", () -> keeper(0, 3, 10), 54, x -> x.smallFor(0, 39));
        EDGES.asked("20: 40 DAYS", () -> keeper(0, 3, 10), 63, x -> x.smallFor(0, 40));
    }

    /**
     * 20: a JUDGE with 63 goes to the bank on DAY 1 too, so that its coin is less worn than with 64, and it GIVES less.
     * With 62 it does as well, but has one too few.
     */
    private static void smallForWithGaps() {
        WinkPurses x = new WinkPurses();
        x.set(0, 4);
        Scene.add(x, 4, 0, 0, 0, 52);
        x.person(0, 76);
        x.list(0, 118);
        x.list(2, 138);
        x.list(3, 117);
        due("20: the fewest", x.smallFor(0, 4), 63);
        int[] smalls = {62, 63, 64, 65, 66};
        int[] worn = {48, 48, 50, 50, 48};
        int[] debts = {1, 0, 1, 0, 0};
        for (int i = 0; i < smalls.length; i++) {
            x.change(0, 1, smalls[i]);
            due("20: WORN with " + smalls[i], x.ahead(0, 4, 2), worn[i]);
            due("20: DEBT with " + smalls[i], x.ahead(0, 3, 4), debts[i]);
        }
    }

    /** 21: n (0 to 20). */
    private static void strikeDays() {
        EDGES.beyond("21: n", Scene::town, 0, 20, (x, v) -> x.strike(v));
        EDGES.beyond("21: n with nobody", Scene::empty, 0, 20, (x, v) -> x.strike(v));
        EDGES.allowed("21: n", Scene::empty, 0, 20, (x, v) -> x.strike(v));
        EDGES.refused("21: NONE", Scene::town, Finding.NONE, x -> x.strike(0));
        EDGES.refused("21: NONE of one", () -> payerHas(0, 2), Finding.NONE, x -> x.strike(1));
        EDGES.asked("21: a DEBT that is repaid", () -> payerHas(0, 1), 1, x -> x.strike(1));
    }

    private static WinkPurses eight() {
        WinkPurses x = new WinkPurses();
        for (int p = 0; p < 8; p++) {
            x.person(1, 0);
        }
        for (int i = 0; i < 6; i++) {
            x.list(i, 1000 * (i + 2) + 100 * (i % 2) + 1);
        }
        return x;
    }

    /** 21: the set of fewest people: nobody, one, up to all who pay. */
    private static void strikeFromNobodyOn() {
        EDGES.asked("21: nobody is there", Scene::empty, 0, x -> x.strike(20));
        EDGES.asked("21: no DAY", HowToPayEdgesTest::eight, 0, x -> x.strike(0));
        EDGES.asked("21: one DAY", HowToPayEdgesTest::eight, 4, x -> x.strike(1));
        EDGES.asked("21: five DAYS", HowToPayEdgesTest::eight, 124, x -> x.strike(5));
        EDGES.asked("21: six DAYS", HowToPayEdgesTest::eight, 252, x -> x.strike(6));
        EDGES.asked("21: twenty DAYS", HowToPayEdgesTest::eight, 252, x -> x.strike(20));
        WinkPurses x = new WinkPurses();
        x.list(0, 7601);
        x.person(0, 0);
        due("21: who isn't there needn't", x.strike(20), 0);
        x.list(0, 1);
        due("21: nor who pays itself", x.strike(20), 0);
        WinkPurses y = Scene.two(0, 0);
        y.person(0, 0);
        y.list(0, 250);
        due("21: who pays the last one", y.strike(1), 1);
    }

    /** A fourth payment of place 1 on DAY 19. */
    private static void strikeTwentyDays() {
        EDGES.asked("21: 19 DAYS", () -> keeper(3, 1, 1), 0, x -> x.strike(19));
        EDGES.asked("21: 20 DAYS", () -> keeper(3, 1, 1), 1, x -> x.strike(20));
    }

    /** 22: v (0 to 9999). */
    private static void coinsFromNoneTo9999() {
        EDGES.beyond("22: v", Scene::town, 0, 9999, (x, v) -> x.coins(v));
        EDGES.beyond("22: v with nobody", Scene::empty, 0, 9999, (x, v) -> x.coins(v));
        EDGES.asked("22: 0", Scene::empty, 0, x -> x.coins(0));
        EDGES.asked("22: 1", Scene::empty, 1, x -> x.coins(1));
        EDGES.asked("22: 9998", Scene::empty, 530, x -> x.coins(9998));
        EDGES.asked("22: 9999", Scene::empty, 531, x -> x.coins(9999));
        EDGES.asked("22: 9999 by the town's RATE", Scene::town, 771, x -> x.coins(9999));
    }

    /** 22: the fewest winks, SMALL and SLOW ones together. */
    private static void coinsAreTheFewest() {
        for (int rate = 2; rate <= 30; rate++) {
            WinkPurses x = new WinkPurses();
            x.set(0, rate);
            int[] values = {0, 1, rate - 1, rate, rate + 1, 2 * rate - 1, 2 * rate, 10 * rate, 999, 1000, 5000, 9998, 9999};
            for (int v : values) {
                int fewest = v;
                for (int slow = 0; slow * rate <= v; slow++) {
                    fewest = Math.min(fewest, slow + v - slow * rate);
                }
                due("22: " + v + " by " + rate, x.coins(v), fewest);
            }
        }
    }
}
