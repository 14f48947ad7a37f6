/** Promises 26 to 28: markets by draws. */
public final class MarketTest {
    private static final Check CHECK = new Check();

    public static void main(String[] args) {
        marketsByDraws();
        marketsOfASeed();
        marketWrongly();
        oddsTell();
        oddsWrongly();
        seeds();
        CHECK.finish();
    }

    private static void due(String call, long got, long want) {
        CHECK.due(call, got, want);
    }

    private static void marketsByDraws() {
        WinkPurses x = new WinkPurses();
        for (int i = 0; i < 8; i++) {
            x.person(0, 60);
        }
        due("26: market(1)", x.market(1), 488);
        due("26: PAYMENT", x.listed(0), 6056);
        due("26: the next place stays", x.listed(1), 100);
        due("26: z", x.count(6), 662824084);
        due("26: DAY", x.now(0), 1);
        due("26: PAYER", x.of(6, 1), 5);
        due("26: PAYEE's SMALL", x.of(0, 1), 3);
        due("26: PAYEE's SLOW", x.of(0, 2), 6);
        due("26: market(2)", x.market(2), 504);
        due("26: PAYMENT", x.listed(1), 3736);
        due("26: PAYMENT to the same one", x.listed(2), 6668);
        due("26: z", x.count(6), -1084965762);
        due("26: DAY", x.now(0), 3);
        due("26: PAYER", x.of(3, 1), 27);
        due("26: paid but once", x.of(6, 5), 1);
        x.market(4);
        int[] payments = {2524, 3736, 6668, 5296, 2069, 3517};
        for (int i = 0; i < 6; i++) {
            due("26: listed(" + i + ") behind seven", x.listed(i), payments[i]);
        }
    }

    private static void marketsOfASeed() {
        WinkPurses x = new WinkPurses();
        due("28: seed(-5)", x.seed(-5), 1);
        due("26: nobody", x.market(3), 0);
        due("26: listed(0)", x.listed(0), 224);
        due("26: listed(1)", x.listed(1), 592);
        due("26: listed(2)", x.listed(2), 3338);
        due("26: z", x.count(6), 1601724976);
        due("28: seed(7)", x.seed(7), 1601724976);
        x.go(3);
        due("26: market(1)", x.market(1), 0);
        due("26: the place of DAY 6", x.listed(0), 5788);
    }

    private static void marketWrongly() {
        WinkPurses x = new WinkPurses();
        due("26: market(0)", x.market(0), Finding.BEYOND);
        due("26: market(21)", x.market(21), Finding.BEYOND);
        due("26: market(-1)", x.market(-1), Finding.BEYOND);
        due("26: z stays", x.count(6), 1);
        due("26: DAY stays", x.now(0), 0);
        due("26: market(20)", x.market(20), 0);
        due("26: DAY", x.now(0), 20);
    }

    private static void dueOdds(String name, WinkPurses x, int n, long above, long below) {
        due("27: " + name + ", above", x.odds(0, n, 0), above);
        due("27: " + name + ", below", x.odds(0, n, 1), below);
    }

    private static void oddsTell() {
        WinkPurses x = new WinkPurses();
        x.person(0, 30);
        dueOdds("31 of 100, twice", x, 2, 961, 10000);
        dueOdds("never", x, 0, 1, 1);
        x.change(0, 1, 49);
        dueOdds("a half", x, 9, 1, 512);
        x.change(0, 1, 0);
        dueOdds("1 of 100", x, 9, 1, 1000000000000000000L);
        x.change(0, 1, 98);
        dueOdds("99 of 100", x, 9, 913517247483640899L, 1000000000000000000L);
        x.change(0, 1, 99);
        dueOdds("all", x, 9, 1, 1);
        x.change(0, 1, 0);
        x.change(0, 2, 2);
        dueOdds("39 of 100, of SLOW ones", x, 1, 39, 100);
        x.change(0, 0, 6);
        dueOdds("a FORGER", x, 1, 43, 50);
        x.change(0, 0, 5);
        dueOdds("a CURATE", x, 1, 13, 100);
        x.change(0, 2, 0);
        x.change(0, 1, 18);
        x.change(0, 0, 4);
        dueOdds("a JUDGE with less than RATE", x, 3, 0, 1);
        dueOdds("a JUDGE with less than RATE, never", x, 0, 1, 1);
        x.change(0, 1, 19);
        dueOdds("a JUDGE with RATE", x, 2, 121, 2500);
        due("27: no finding", x.status(-1), 0);
    }

    private static void oddsWrongly() {
        WinkPurses x = new WinkPurses();
        due("27: nobody", x.odds(0, 1, 0), Finding.BEYOND);
        x.person(0, 0);
        due("27: one -1", x.odds(-1, 1, 0), Finding.BEYOND);
        due("27: n 10", x.odds(0, 10, 0), Finding.BEYOND);
        due("27: n -1", x.odds(0, -1, 0), Finding.BEYOND);
        due("27: what 2", x.odds(0, 1, 2), Finding.BEYOND);
        due("27: what -1", x.odds(0, 1, -1), Finding.BEYOND);
        due("27: counted", x.status(0), 6);
    }

    private static void seeds() {
        WinkPurses x = new WinkPurses();
        due("28: seed(-1000001)", x.seed(-1000001), 1);
        due("28: seed(MAX)", x.seed(Integer.MAX_VALUE), -1000001);
        due("28: seed(MIN)", x.seed(Integer.MIN_VALUE), Integer.MAX_VALUE);
        due("28: z", x.count(6), Integer.MIN_VALUE);
        due("28: no finding", x.status(-1), 0);
    }
}
