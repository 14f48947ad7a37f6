/** Promises 10 to 16: days, and what will be. */
public final class DaysTest {
    private static final Check CHECK = new Check();

    public static void main(String[] args) {
        daysWithAPayment();
        nothingIsPaid();
        everyPayerAndPayee();
        orderOfADay();
        debtIsRepaid();
        bank();
        earnings();
        goWrongly();
        nowTells();
        aheadTells();
        richTells();
        owesTells();
        evenTells();
        forgedTells();
        lastDay();
        CHECK.finish();
    }

    private static void due(String call, long got, long want) {
        CHECK.due(call, got, want);
    }

    private static void daysWithAPayment() {
        WinkPurses x = new WinkPurses();
        x.person(0, 20);
        x.person(1, 10);
        x.list(0, 105);
        due("10: go(1)", x.go(1), 32);
        due("10: DAY", x.now(0), 1);
        due("10: PAYER", x.of(0, 1), 16);
        due("10: PAYEE", x.of(1, 1), 16);
        due("10: PAID", x.of(0, 5), 1);
        due("10: WORN", x.of(1, 4), 1);
        due("10: go(5)", x.go(5), 37);
        due("10: PAID but once", x.of(0, 5), 1);
        due("10: go(1) again by the first place", x.go(1), 39);
        due("10: PAYER", x.of(0, 1), 17);
        due("10: PAYEE's SMALL", x.of(1, 1), 3);
        due("10: PAYEE's SLOW", x.of(1, 2), 1);
        due("10: PAYEE's WORN", x.of(1, 4), 0);
        due("10: PAID", x.of(0, 5), 2);
        x.list(3, 1002);
        due("10: go(3)", x.go(3), 42);
        due("10: the other one paid", x.of(1, 5), 1);
        due("10: PURSE", x.of(1, 6), 20);
        due("10: PURSE", x.of(0, 6), 22);
    }

    private static void nothingIsPaid() {
        WinkPurses x = new WinkPurses();
        x.person(1, 10);
        x.person(1, 10);
        int[] payments = {50, 1150, 250, 2050, 7750, 1000};
        for (int i = 0; i < 6; i++) {
            x.list(i, payments[i]);
        }
        due("10: go(6)", x.go(6), 20);
        due("10: nobody PAID", x.now(7), 0);
        due("10: no coin is WORN", x.now(6), 0);
    }

    private static void everyPayerAndPayee() {
        for (int payer = 0; payer < 8; payer++) {
            for (int payee = 0; payee < 8; payee++) {
                int price = payee == 0 ? 1 : 90 + payee;
                WinkPurses x = new WinkPurses();
                for (int i = 0; i < 8; i++) {
                    x.person(1, 0);
                    x.change(i, 2, 9);
                }
                x.list(0, 1000 * payer + 100 * payee + price);
                x.go(1);
                for (int i = 0; i < 8; i++) {
                    String name = "10: " + payer + " pays " + payee + ": of(" + i;
                    due(name + ", 5)", x.of(i, 5), i == payer && payer != payee ? 1 : 0);
                    int takes = price + price / 5;
                    due(name + ", 6)", x.of(i, 6), 171 + (payer == payee ? 0 : i == payee ? takes : i == payer ? price / 10 - price : 0));
                }
            }
        }
    }

    private static void orderOfADay() {
        WinkPurses x = new WinkPurses();
        x.person(0, 0);
        x.person(1, 0);
        x.list(0, 101);
        due("10: earns behind the payment", x.go(1), 0);
        due("10: no DEBT is left", x.of(0, 3), 0);
        due("10: PAYEE went empty", x.of(1, 1), 0);
        WinkPurses y = new WinkPurses();
        y.person(1, 19);
        y.change(0, 3, 10);
        due("10: repays ahead of the bank", y.go(1), 9);
        due("10: SLOW", y.of(0, 2), 0);
        WinkPurses z = new WinkPurses();
        z.person(1, 25);
        z.person(0, 0);
        z.list(0, 120);
        due("10: pays ahead of the bank", z.go(1), 28);
        due("10: SLOW", z.of(0, 2), 0);
        due("10: SMALL", z.of(0, 1), 7);
    }

    private static void debtIsRepaid() {
        WinkPurses x = new WinkPurses();
        x.person(0, 3);
        x.change(0, 3, 10);
        x.person(0, 3);
        x.change(1, 3, 2);
        x.person(3, 0);
        x.change(2, 2, 9);
        x.change(2, 3, 50);
        x.go(1);
        due("10: DEBT less by all SMALL ones", x.of(0, 3), 6);
        due("10: SMALL", x.of(0, 1), 0);
        due("10: DEBT is none", x.of(1, 3), 0);
        due("10: SMALL left", x.of(1, 1), 2);
        due("10: SLOW ones are not changed for a DEBT", x.of(2, 2), 9);
        due("10: DEBT", x.of(2, 3), 49);
    }

    private static void bank() {
        WinkPurses x = new WinkPurses();
        for (int kind = 0; kind < 7; kind++) {
            x.person(kind, 98);
            x.change(kind, 4, 7);
        }
        x.go(1);
        int[] small = {99, 3, 99, 99, 4, 98, 8};
        int[] slow = {0, 5, 0, 0, 5, 0, 5};
        int[] worn = {7, 5, 7, 7, 5, 7, 5};
        for (int kind = 0; kind < 7; kind++) {
            due("10: SMALL of kind " + kind, x.of(kind, 1), small[kind]);
            due("10: SLOW of kind " + kind, x.of(kind, 2), slow[kind]);
            due("10: WORN of kind " + kind, x.of(kind, 4), worn[kind]);
        }
        x.change(5, 1, 100);
        x.change(5, 4, 1);
        x.go(1);
        due("10: PERSON changes with 100", x.of(0, 2), 5);
        due("10: ELDER changes with 100", x.of(2, 2), 5);
        due("10: MISER never", x.of(3, 2), 0);
        due("10: CURATE changes with 100", x.of(5, 1), 5);
        due("10: WORN 0 at least", x.of(5, 4), 0);
        WinkPurses y = new WinkPurses();
        y.person(1, 50);
        y.change(0, 2, 998);
        y.change(0, 4, 9);
        y.go(1);
        due("10: SLOW 999 at most", y.of(0, 2), 999);
        due("10: SMALL ones stay then", y.of(0, 1), 31);
        due("10: WORN 2 less", y.of(0, 4), 7);
        y.go(1);
        due("10: no more then", y.of(0, 1), 31);
        due("10: WORN stays", y.of(0, 4), 7);
    }

    private static void earnings() {
        WinkPurses x = new WinkPurses();
        x.person(6, 0);
        x.person(6, 0);
        x.person(3, 998);
        x.set(1, 9983);
        due("10: go(1)", x.go(1), 1009);
        due("10: FALSE by two", x.now(3), 9993);
        due("10: SMALL at most", x.of(2, 1), 999);
        x.go(1);
        due("10: FALSE at most", x.now(3), 9999);
        due("10: SMALL at most still", x.of(2, 1), 999);
        WinkPurses y = new WinkPurses();
        y.person(2, 0);
        y.person(3, 0);
        y.change(1, 2, 99);
        y.go(6);
        due("10: an ELDER in six days", y.of(0, 1), 6);
        due("10: a MISER in six days", y.of(1, 1), 60);
        y.go(1);
        due("10: an ELDER on the seventh", y.of(0, 1), 9);
        due("10: a MISER on the seventh", y.of(1, 1), 72);
    }

    private static void goWrongly() {
        WinkPurses x = new WinkPurses();
        x.person(0, 20);
        due("10: go(0)", x.go(0), Finding.BEYOND);
        due("10: go(61)", x.go(61), Finding.BEYOND);
        due("10: go(-1)", x.go(-1), Finding.BEYOND);
        due("10: go(MIN)", x.go(Integer.MIN_VALUE), Finding.BEYOND);
        due("10: go(MAX)", x.go(Integer.MAX_VALUE), Finding.BEYOND);
        due("10: DAY stays", x.now(0), 0);
        due("10: go(60)", x.go(60), 80);
        due("10: DAY", x.now(0), 60);
    }

    private static void nowTells() {
        WinkPurses x = new WinkPurses();
        due("11: the richest of nobody", x.now(5), -1);
        x.person(0, 10);
        x.person(3, 48);
        x.person(1, 10);
        x.change(2, 2, 2);
        x.change(1, 3, 7);
        x.change(2, 3, 8);
        x.change(0, 4, 3);
        x.change(2, 4, 4);
        x.change(0, 5, 5);
        x.change(1, 5, 6);
        x.set(1, 77);
        int[] want = {0, 106, 15, 77, 6, 1, 7, 11};
        for (int what = 0; what <= 7; what++) {
            due("11: now(" + what + ")", x.now(what), want[what]);
        }
        x.set(0, 20);
        due("11: the richest by RATE", x.now(5), 2);
        x.change(0, 3, 1);
        due("11: who has a DEBT", x.now(4), 7);
        due("11: now(8)", x.now(8), Finding.BEYOND);
        due("11: now(-1)", x.now(-1), Finding.BEYOND);
        WinkPurses y = new WinkPurses();
        y.person(0, 0);
        due("11: the richest with nothing", y.now(5), 0);
    }

    private static void aheadTells() {
        WinkPurses x = new WinkPurses();
        x.person(0, 20);
        x.person(1, 10);
        x.list(0, 105);
        due("12: SMALL, 0 days", x.ahead(0, 1, 0), 20);
        due("12: SMALL, 7 days", x.ahead(0, 1, 7), 17);
        due("12: SLOW, 7 days", x.ahead(1, 2, 7), 1);
        due("12: WORN, 6 days", x.ahead(1, 4, 6), 1);
        due("12: PAID, 13 days", x.ahead(0, 5, 13), 3);
        due("12: PURSE, 7 days", x.ahead(1, 6, 7), 22);
        due("12: nothing changes", x.of(0, 1), 20);
        due("12: nor DAY", x.now(0), 0);
        x.list(0, 199);
        due("12: DEBT, 1 day", x.ahead(0, 3, 1), 78);
        due("12: what 0", x.ahead(0, 0, 1), Finding.BEYOND);
        due("12: what 7", x.ahead(0, 7, 1), Finding.BEYOND);
        due("12: n 101", x.ahead(0, 1, 101), Finding.BEYOND);
        due("12: n -1", x.ahead(0, 1, -1), Finding.BEYOND);
        due("12: one 2", x.ahead(2, 1, 1), Finding.BEYOND);
        due("12: one -1", x.ahead(-1, 1, 1), Finding.BEYOND);
        x.list(0, 100);
        due("12: SMALL, 100 days", x.ahead(0, 1, 100), 25);
        due("12: SLOW, 100 days", x.ahead(0, 2, 100), 5);
        due("12: PURSE, 100 days", x.ahead(0, 6, 100), 120);
    }

    private static void richTells() {
        WinkPurses x = new WinkPurses();
        x.person(1, 0);
        x.person(0, 20);
        due("13: now", x.rich(1, 20), 0);
        due("13: 0", x.rich(0, 0), 0);
        due("13: in 5 days", x.rich(1, 25), 5);
        due("13: in 200 days", x.rich(1, 220), 200);
        due("13: in 201 days", x.rich(1, 221), Finding.NONE);
        due("13: never", x.rich(0, 1), Finding.NONE);
        due("13: v 9999", x.rich(1, 9999), Finding.NONE);
        due("13: v 10000", x.rich(1, 10000), Finding.BEYOND);
        due("13: v -1", x.rich(1, -1), Finding.BEYOND);
        due("13: one 2", x.rich(2, 0), Finding.BEYOND);
        due("13: one -1", x.rich(-1, 0), Finding.BEYOND);
        due("13: nothing changes", x.of(1, 1), 20);
    }

    private static void owesTells() {
        WinkPurses x = new WinkPurses();
        x.person(0, 3);
        x.person(0, 0);
        x.list(0, 105);
        due("14: behind the first day", x.owes(0), 1);
        due("14: never", x.owes(1), Finding.NONE);
        x.change(0, 1, 4);
        due("14: what is repaid on the day is no DEBT behind it", x.owes(0), Finding.NONE);
        x.list(0, 106);
        x.change(0, 1, 5);
        due("14: one is earned on the day", x.owes(0), Finding.NONE);
        x.list(0, 107);
        due("14: 7 every 6 days", x.owes(0), 1);
        x.list(0, 100);
        x.list(1, 107);
        x.change(0, 1, 8);
        due("14: one fewer from each payment to the next", x.owes(0), 26);
        x.change(1, 3, 1);
        due("14: now", x.owes(1), 0);
        due("14: one 2", x.owes(2), Finding.BEYOND);
        due("14: one -1", x.owes(-1), Finding.BEYOND);
        due("14: nothing changes", x.now(0), 0);
    }

    private static void evenTells() {
        WinkPurses x = new WinkPurses();
        due("15: nobody", x.even(), 0);
        x.person(0, 0);
        x.person(0, 0);
        due("15: now", x.even(), 0);
        x.change(1, 3, 3);
        due("15: in 3 days", x.even(), 3);
        x.change(0, 3, 200);
        due("15: in 200 days", x.even(), 200);
        x.change(0, 3, 201);
        due("15: in 201 days", x.even(), Finding.NONE);
        due("15: nothing changes", x.of(1, 3), 3);
    }

    private static void forgedTells() {
        WinkPurses x = new WinkPurses();
        due("16: nobody forges", x.forged(1), Finding.NONE);
        x.person(6, 0);
        due("16: 0", x.forged(0), 0);
        due("16: 11", x.forged(11), 3);
        due("16: 1000", x.forged(1000), 200);
        due("16: 1001", x.forged(1001), Finding.NONE);
        x.set(1, 9998);
        due("16: 9999", x.forged(9999), 1);
        due("16: 10000", x.forged(10000), Finding.BEYOND);
        due("16: -1", x.forged(-1), Finding.BEYOND);
        due("16: nothing changes", x.now(3), 9998);
    }

    /** No object reaches the last day within its 512 calls; that it ends there is kept all the same. */
    private static void lastDay() {
        WinkPurses x = new WinkPurses();
        x.person(1, 5);
        for (int i = 0; i < 1666; i++) {
            x.go(60);
        }
        due("10: DAY", x.now(0), 99960);
        due("10: go(40)", x.go(40), Finding.STATE);
        due("26: market(20)", x.market(20), 5);
        due("10: go(20)", x.go(20), Finding.STATE);
        due("10: go(61)", x.go(61), Finding.BEYOND);
        due("26: market(20)", x.market(20), Finding.STATE);
        x.image();
        due("26: market(19)", x.market(19), 5);
        due("26: DAY", x.now(0), 99999);
        due("40: undo()", x.undo(), 99980);
        due("10: go(19)", x.go(19), 5);
        due("10: DAY", x.now(0), 99999);
        due("10: go(1)", x.go(1), Finding.STATE);
        due("26: market(1)", x.market(1), Finding.STATE);
        due("26: market(21)", x.market(21), Finding.BEYOND);
        due("12: DAY goes no further", x.ahead(0, 1, 3), 5);
    }
}
