/** Promises 17 to 22: how to pay. */
public final class HowToPayTest {
    private static final Check CHECK = new Check();

    public static void main(String[] args) {
        priceForTells();
        rateForTells();
        kindForTells();
        smallForTells();
        smallForTakesTheFewest();
        strikeTells();
        strikeTakesTheLeast();
        strikeTakesTheFewest();
        coinsTell();
        CHECK.finish();
    }

    private static void due(String call, long got, long want) {
        CHECK.due(call, got, want);
    }

    private static void priceForTells() {
        WinkPurses x = new WinkPurses();
        due("17: nobody", x.priceFor(0, 60), 99);
        x.person(0, 20);
        x.person(0, 0);
        x.list(0, 105);
        due("17: no day", x.priceFor(0, 0), 99);
        due("17: one day", x.priceFor(0, 1), 21);
        due("17: not paid on that day", x.priceFor(1, 1), 99);
        due("17: two days", x.priceFor(1, 2), 17);
        due("17: seven days", x.priceFor(0, 7), 13);
        due("17: THE LIST stays", x.listed(0), 105);
        due("17: nothing changes", x.of(0, 1), 20);
        x.change(0, 3, 5);
        due("17: a DEBT that is repaid", x.priceFor(0, 1), 16);
        due("17: a DEBT now", x.priceFor(0, 0), Finding.NONE);
        x.change(0, 3, 21);
        due("17: but for no PRICE", x.priceFor(0, 1), 0);
        x.change(0, 3, 22);
        due("17: not even then", x.priceFor(0, 1), Finding.NONE);
        x.change(0, 3, 500);
        due("17: a DEBT that stays", x.priceFor(0, 60), Finding.NONE);
        due("17: place 6", x.priceFor(6, 1), Finding.BEYOND);
        due("17: place -1", x.priceFor(-1, 1), Finding.BEYOND);
        due("17: n 61", x.priceFor(0, 61), Finding.BEYOND);
        due("17: n -1", x.priceFor(0, -1), Finding.BEYOND);
    }

    private static void rateForTells() {
        WinkPurses x = new WinkPurses();
        due("18: nobody", x.rateFor(60), 2);
        x.person(0, 20);
        due("18: no SLOW one", x.rateFor(0), 2);
        x.change(0, 2, 1);
        due("18: one SLOW one", x.rateFor(0), 30);
        x.change(0, 2, 0);
        x.change(0, 0, 4);
        x.person(0, 0);
        x.list(0, 101);
        due("18: a JUDGE pays by RATE", x.rateFor(1), 2);
        x.list(0, 112);
        due("18: up to what a MISER gives, all are alike", x.rateFor(1), 2);
        x.change(0, 1, 0);
        x.change(0, 2, 1);
        x.list(0, 101);
        due("18: SLOW ones against what a JUDGE pays", x.rateFor(1), 2);
        x.change(0, 2, 2);
        due("18: two SLOW ones", x.rateFor(1), 30);
        due("18: RATE stays", x.set(0, 19), 19);
        due("18: n 61", x.rateFor(61), Finding.BEYOND);
        due("18: n -1", x.rateFor(-1), Finding.BEYOND);
        WinkPurses y = new WinkPurses();
        y.person(4, 20);
        y.person(0, 0);
        y.change(0, 2, 1);
        y.list(0, 117);
        due("18: no more than a MISER gives", y.rateFor(1), 15);
    }

    private static void kindForTells() {
        WinkPurses x = new WinkPurses();
        x.person(5, 20);
        due("19: no day", x.kindFor(0, 0), 0);
        due("19: ten days", x.kindFor(0, 10), 6);
        due("19: sixty days", x.kindFor(0, 60), 6);
        x.change(0, 2, 100);
        due("19: many SLOW ones", x.kindFor(0, 1), 3);
        x.change(0, 2, 40);
        due("19: as much as a FORGER", x.kindFor(0, 1), 3);
        x.change(0, 2, 39);
        due("19: less than a FORGER", x.kindFor(0, 1), 6);
        x.person(0, 99);
        x.list(0, 1001);
        x.change(0, 2, 100);
        due("19: takes one more", x.kindFor(0, 1), 3);
        due("19: KIND stays", x.of(0, 0), 5);
        due("19: one 2", x.kindFor(2, 1), Finding.BEYOND);
        due("19: one -1", x.kindFor(-1, 1), Finding.BEYOND);
        due("19: n 61", x.kindFor(0, 61), Finding.BEYOND);
        due("19: n -1", x.kindFor(0, -1), Finding.BEYOND);
    }

    private static void smallForTells() {
        WinkPurses x = new WinkPurses();
        x.person(0, 20);
        x.person(0, 0);
        x.list(0, 130);
        due("20: no day", x.smallFor(0, 0), 0);
        due("20: one day", x.smallFor(0, 1), 29);
        due("20: seven days", x.smallFor(0, 7), 53);
        due("20: the other one", x.smallFor(1, 40), 0);
        x.change(0, 2, 1);
        due("20: with a SLOW one", x.smallFor(0, 1), 10);
        x.change(0, 2, 0);
        x.change(0, 3, 970);
        due("20: the most", x.smallFor(0, 1), 999);
        x.change(0, 3, 971);
        due("20: more than the most", x.smallFor(0, 1), Finding.NONE);
        due("20: a DEBT now", x.smallFor(0, 0), Finding.NONE);
        due("20: SMALL stays", x.of(0, 1), 20);
        due("20: only one's own DEBT", x.smallFor(1, 1), 0);
        due("20: one 2", x.smallFor(2, 1), Finding.BEYOND);
        due("20: one -1", x.smallFor(-1, 1), Finding.BEYOND);
        due("20: n 41", x.smallFor(0, 41), Finding.BEYOND);
        due("20: n -1", x.smallFor(0, -1), Finding.BEYOND);
    }

    /** A judge's coin wears otherwise with one wink more, and so it owes with 103 what it doesn't with 102. */
    private static void smallForTakesTheFewest() {
        WinkPurses x = new WinkPurses();
        x.set(0, 26);
        x.person(4, 0);
        x.person(6, 50);
        x.person(5, 69);
        x.change(0, 4, 52);
        x.change(1, 2, 1);
        x.change(1, 3, 2);
        x.change(1, 4, 47);
        x.change(2, 4, 47);
        int[] payments = {1212, 2100, 1280, 2120, 2036, 160};
        for (int i = 0; i < 6; i++) {
            x.list(i, payments[i]);
        }
        due("20: the fewest", x.smallFor(0, 12), 102);
        int[] smalls = {101, 102, 103};
        for (int small : smalls) {
            x.change(0, 1, small);
            CHECK.dueTrue("20: DEBT with " + small, x.ahead(0, 3, 12) > 0 == (small != 102));
        }
    }

    private static void strikeTells() {
        WinkPurses x = new WinkPurses();
        due("21: nobody", x.strike(20), 0);
        x.person(0, 0);
        x.person(0, 0);
        x.person(0, 100);
        x.list(0, 250);
        x.list(1, 1250);
        due("21: no day", x.strike(0), 0);
        due("21: one day", x.strike(1), 1);
        due("21: two days", x.strike(2), 3);
        due("21: THE LIST stays", x.listed(0), 250);
        due("21: nothing changes", x.now(0), 0);
        x.change(2, 3, 500);
        due("21: a DEBT that stays", x.strike(20), Finding.NONE);
        due("21: n 21", x.strike(21), Finding.BEYOND);
        due("21: n -1", x.strike(-1), Finding.BEYOND);
    }

    /** One whose empty payment wears an elder's coin, and the elder: either will do. */
    private static void strikeTakesTheLeast() {
        WinkPurses x = new WinkPurses();
        x.person(0, 0);
        x.person(2, 10);
        x.person(0, 0);
        x.change(1, 4, 49);
        x.list(0, 101);
        x.list(1, 1212);
        due("21: the elder owes", x.ahead(1, 3, 2), 1);
        due("21: of {0} and {1}", x.strike(2), 1);
    }

    /** Two who wear an elder's coin, who would be the set 3, and the elder alone, the set 4. */
    private static void strikeTakesTheFewest() {
        WinkPurses x = new WinkPurses();
        x.person(0, 0);
        x.person(0, 0);
        x.person(2, 10);
        x.person(0, 0);
        x.change(1, 3, 1);
        x.change(2, 4, 49);
        x.list(0, 201);
        x.list(1, 1201);
        x.list(2, 2313);
        due("21: the elder owes", x.ahead(2, 3, 3), 1);
        due("21: {2} is fewer than {0, 1}", x.strike(3), 4);
        x.list(0, 200);
        x.list(1, 200);
        due("21: none of the two wears it", x.strike(3), 0);
    }

    private static void coinsTell() {
        WinkPurses x = new WinkPurses();
        due("22: coins(0)", x.coins(0), 0);
        due("22: coins(18)", x.coins(18), 18);
        due("22: coins(19)", x.coins(19), 1);
        due("22: coins(20)", x.coins(20), 2);
        due("22: coins(9999)", x.coins(9999), 531);
        x.set(0, 2);
        due("22: coins(9999) by 2", x.coins(9999), 5000);
        x.set(0, 30);
        due("22: coins(9999) by 30", x.coins(9999), 342);
        due("22: coins(10000)", x.coins(10000), Finding.BEYOND);
        due("22: coins(-1)", x.coins(-1), Finding.BEYOND);
        due("22: coins(MIN)", x.coins(Integer.MIN_VALUE), Finding.BEYOND);
    }
}
