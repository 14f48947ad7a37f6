/** Promises 1 to 9: a new object, the town and its people. */
public final class TownTest {
    private static final Check CHECK = new Check();

    public static void main(String[] args) {
        newObject();
        setRateAndFalse();
        listOfPayments();
        people();
        ofOne();
        earnsAndChanges();
        changeOne();
        givesByKind();
        takesByKind();
        payEnough();
        payTooLittle();
        payAtTheLimits();
        payWrongly();
        CHECK.finish();
    }

    private static void due(String call, long got, long want) {
        CHECK.due(call, got, want);
    }

    private static void newObject() {
        WinkPurses x = new WinkPurses();
        for (int what = 0; what <= 7; what++) {
            due("1: count(" + what + ")", x.count(what), what == 6 ? 1 : 0);
        }
        for (int i = 0; i < 6; i++) {
            due("1: listed(" + i + ")", x.listed(i), 100);
        }
        due("1: no finding yet", x.status(-1), 0);
        due("1: RATE", x.set(0, 19), 19);
        due("1: FALSE", x.set(1, 0), 0);
        due("1: nobody", x.of(0, 0), Finding.BEYOND);
        due("1: no image", x.undo(), Finding.NONE);
        due("1: nothing to tear", x.tear(), 0);
        due("1: tape", x.wipe(), 0);
        for (int s = 0; s < 4; s++) {
            due("1: sheet " + s, x.judge(s), Finding.MISSING);
        }
        for (int spot = 0; spot < 10; spot++) {
            due("1: spot " + spot, x.as(spot, 0), Finding.MISSING);
        }
    }

    private static void setRateAndFalse() {
        WinkPurses x = new WinkPurses();
        due("2: set(0, 2)", x.set(0, 2), 19);
        due("2: set(0, 30)", x.set(0, 30), 2);
        due("2: set(0, 1)", x.set(0, 1), Finding.BEYOND);
        due("2: set(0, 31)", x.set(0, 31), Finding.BEYOND);
        due("2: RATE stays", x.set(0, 7), 30);
        due("2: set(1, 9999)", x.set(1, 9999), 0);
        due("2: set(1, 10000)", x.set(1, 10000), Finding.BEYOND);
        due("2: set(1, -1)", x.set(1, -1), Finding.BEYOND);
        due("2: set(1, 3)", x.set(1, 3), 9999);
        due("2: FALSE", x.now(3), 3);
        due("2: set(2, 5)", x.set(2, 5), Finding.BEYOND);
        due("2: set(-1, 5)", x.set(-1, 5), Finding.BEYOND);
        due("2: set(MIN, MIN)", x.set(Integer.MIN_VALUE, Integer.MIN_VALUE), Finding.BEYOND);
        due("2: RATE still", x.set(0, 19), 7);
    }

    private static void listOfPayments() {
        WinkPurses x = new WinkPurses();
        due("3: list(0, 7699)", x.list(0, 7699), 100);
        due("3: list(0, 7799)", x.list(0, 7799), 7699);
        due("3: list(5, 0)", x.list(5, 0), 100);
        due("3: list(5, 123)", x.list(5, 123), 0);
        due("3: list(5, 7800)", x.list(5, 7800), Finding.BEYOND);
        due("3: list(5, 800)", x.list(5, 800), Finding.BEYOND);
        due("3: list(5, 3950)", x.list(5, 3950), Finding.BEYOND);
        due("3: list(5, 8000)", x.list(5, 8000), Finding.BEYOND);
        due("3: list(5, -1)", x.list(5, -1), Finding.BEYOND);
        due("3: list(5, MAX)", x.list(5, Integer.MAX_VALUE), Finding.BEYOND);
        due("3: list(6, 100)", x.list(6, 100), Finding.BEYOND);
        due("3: list(-1, 100)", x.list(-1, 100), Finding.BEYOND);
        due("4: listed(0)", x.listed(0), 7799);
        due("4: listed(1)", x.listed(1), 100);
        due("4: listed(5)", x.listed(5), 123);
        due("4: listed(6)", x.listed(6), Finding.BEYOND);
        due("4: listed(-1)", x.listed(-1), Finding.BEYOND);
        due("4: listed(MIN)", x.listed(Integer.MIN_VALUE), Finding.BEYOND);
    }

    private static void people() {
        WinkPurses x = new WinkPurses();
        for (int i = 0; i < 8; i++) {
            due("5: person " + i, x.person(i % 7, 111 * i), i);
        }
        due("5: a 9th", x.person(0, 0), Finding.FULL);
        due("5: a 9th of no kind", x.person(7, 0), Finding.BEYOND);
        due("5: a 9th with too much", x.person(0, 1000), Finding.BEYOND);
        due("5: a kind below", x.person(-1, 0), Finding.BEYOND);
        due("5: less than nothing", x.person(0, -1), Finding.BEYOND);
        due("5: how many", x.count(1), 8);
        due("5: KIND of the last", x.of(7, 0), 0);
        due("5: SMALL of the last", x.of(7, 1), 777);
        WinkPurses y = new WinkPurses();
        due("5: person(6, 999)", y.person(6, 999), 0);
        due("5: person(3, 0)", y.person(3, 0), 1);
        due("5: SMALL", y.of(0, 1), 999);
        due("5: SMALL", y.of(1, 1), 0);
        due("5: KIND", y.of(1, 0), 3);
    }

    private static void ofOne() {
        WinkPurses x = new WinkPurses();
        x.person(4, 17);
        x.change(0, 2, 23);
        x.change(0, 3, 45);
        x.change(0, 4, 67);
        x.change(0, 5, 89);
        long[] want = {4, 17, 23, 45, 67, 89, 17 + 19 * 23, 3, 1};
        for (int what = 0; what <= 8; what++) {
            due("6: of(0, " + what + ")", x.of(0, what), want[what]);
        }
        x.set(0, 7);
        due("6: PURSE by RATE", x.of(0, 6), 17 + 7 * 23);
        due("6: of(0, 9)", x.of(0, 9), Finding.BEYOND);
        due("6: of(0, -1)", x.of(0, -1), Finding.BEYOND);
        due("6: of(1, 0)", x.of(1, 0), Finding.BEYOND);
        due("6: of(-1, 0)", x.of(-1, 0), Finding.BEYOND);
        due("6: of(8, 0)", x.of(8, 0), Finding.BEYOND);
    }

    private static void earnsAndChanges() {
        WinkPurses x = new WinkPurses();
        for (int kind = 0; kind < 7; kind++) {
            x.person(kind, 99);
            x.change(kind, 2, 39);
        }
        long[] earns = {1, 0, 1, 4, 4, 0, 5};
        long[] changes = {0, 1, 0, 0, 1, 0, 1};
        for (int kind = 0; kind < 7; kind++) {
            due("6: EARNS of kind " + kind, x.of(kind, 7), earns[kind]);
            due("6: CHANGES of kind " + kind, x.of(kind, 8), changes[kind]);
            x.change(kind, 1, 100);
            due("6: CHANGES with 100 of kind " + kind, x.of(kind, 8), kind == 3 ? 0 : 1);
        }
        x.go(6);
        for (int kind = 0; kind < 7; kind++) {
            x.change(kind, 2, 20);
        }
        long[] earnsOnSixthDay = {1, 0, 3, 5, 5, 0, 5};
        for (int kind = 0; kind < 7; kind++) {
            due("6: EARNS on DAY 6 of kind " + kind, x.of(kind, 7), earnsOnSixthDay[kind]);
        }
        x.go(1);
        due("6: an ELDER EARNS on DAY 7", x.of(2, 7), 1);
        x.go(6);
        due("6: an ELDER EARNS on DAY 13", x.of(2, 7), 3);
    }

    private static void changeOne() {
        WinkPurses x = new WinkPurses();
        x.person(0, 20);
        x.person(1, 21);
        int[] most = {6, 999, 999, 9999, 99, 9999};
        int[] first = {1, 21, 0, 0, 0, 0};
        for (int what = 0; what < 6; what++) {
            String name = "7: change(1, " + what + ", ";
            due(name + "most)", x.change(1, what, most[what]), first[what]);
            due(name + "above)", x.change(1, what, most[what] + 1), Finding.BEYOND);
            due(name + "-1)", x.change(1, what, -1), Finding.BEYOND);
            due(name + "0)", x.change(1, what, 0), most[what]);
            due(name + "1)", x.change(1, what, 1), 0);
            due("7: of(1, " + what + ")", x.of(1, what), 1);
        }
        due("7: the other one", x.of(0, 1), 20);
        due("7: change(1, 6, 1)", x.change(1, 6, 1), Finding.BEYOND);
        due("7: change(1, -1, 1)", x.change(1, -1, 1), Finding.BEYOND);
        due("7: change(2, 1, 1)", x.change(2, 1, 1), Finding.BEYOND);
        due("7: change(-1, 1, 1)", x.change(-1, 1, 1), Finding.BEYOND);
    }

    private static void givesByKind() {
        WinkPurses x = new WinkPurses();
        for (int kind = 0; kind < 7; kind++) {
            x.person(kind, 20);
        }
        int[] prices = {0, 1, 2, 9, 10, 21, 22, 99};
        int[][] gives = {
            {0, 1, 2, 9, 10, 21, 22, 99},
            {0, 1, 2, 9, 9, 19, 20, 90},
            {0, 1, 2, 9, 10, 21, 22, 99},
            {0, 0, 0, 7, 8, 19, 20, 97},
            {19, 19, 19, 19, 19, 19, 20, 97},
            {0, 3, 6, 27, 30, 63, 66, 297},
            {0, 0, 1, 4, 4, 9, 10, 45},
        };
        for (int kind = 0; kind < 7; kind++) {
            for (int i = 0; i < prices.length; i++) {
                due("8: kind " + kind + " GIVES for " + prices[i], x.price(kind, 0, prices[i]), gives[kind][i]);
            }
        }
        for (int kind = 0; kind < 7; kind++) {
            x.change(kind, 4, 49);
            due("8: kind " + kind + " GIVES with WORN 49", x.price(kind, 0, 50), new int[] {50, 45, 50, 48, 48, 150, 22}[kind]);
            x.change(kind, 4, 50);
            due("8: kind " + kind + " GIVES with WORN 50", x.price(kind, 0, 50), new int[] {50, 45, 51, 49, 49, 150, 22}[kind]);
        }
        due("8: a worn MISER GIVES for 1", x.price(3, 0, 1), 0);
        due("8: a worn MISER GIVES for 2", x.price(3, 0, 2), 1);
        x.set(0, 30);
        due("8: a JUDGE GIVES by RATE", x.price(4, 0, 22), 30);
        due("8: way 2", x.price(0, 2, 5), Finding.BEYOND);
        due("8: way -1", x.price(0, -1, 5), Finding.BEYOND);
        due("8: price 100", x.price(0, 0, 100), Finding.BEYOND);
        due("8: price -1", x.price(0, 1, -1), Finding.BEYOND);
        due("8: one of whom there is none", x.price(7, 0, 5), Finding.BEYOND);
        due("8: one below", x.price(-1, 0, 5), Finding.BEYOND);
    }

    private static void takesByKind() {
        WinkPurses x = new WinkPurses();
        for (int kind = 0; kind < 7; kind++) {
            x.person(kind, 20);
            x.change(kind, 4, 99);
        }
        int[] prices = {0, 1, 4, 5, 11, 99};
        int[][] takes = {
            {0, 1, 4, 5, 11, 99},
            {0, 1, 4, 6, 13, 118},
            {0, 1, 4, 5, 11, 99},
            {1, 2, 5, 6, 12, 100},
            {1, 2, 5, 6, 12, 100},
            {0, 0, 2, 2, 5, 49},
            {0, 1, 4, 6, 13, 118},
        };
        for (int kind = 0; kind < 7; kind++) {
            for (int i = 0; i < prices.length; i++) {
                due("8: kind " + kind + " TAKES for " + prices[i], x.price(kind, 1, prices[i]), takes[kind][i]);
            }
        }
    }

    private static void dueOne(String name, WinkPurses x, int person, int... want) {
        for (int i = 0; i < want.length; i++) {
            due(name + ": of(" + person + ", " + (i + 1) + ")", x.of(person, i + 1), want[i]);
        }
    }

    private static void payEnough() {
        WinkPurses x = new WinkPurses();
        x.person(0, 20);
        x.person(1, 30);
        due("9: pay(0, 1, 20)", x.pay(0, 1, 20), 0);
        dueOne("9: PAYER", x, 0, 0, 0, 0, 0, 1);
        dueOne("9: PAYEE", x, 1, 54, 0, 0, 1, 0);
        due("9: DAY stays", x.now(0), 0);
        x.change(0, 1, 5);
        x.change(0, 2, 3);
        due("9: of SLOW ones", x.pay(0, 1, 30), 0);
        dueOne("9: no more SLOW ones than it takes", x, 0, 13, 1, 0, 0, 2);
        x.change(0, 1, 11);
        due("9: to the last", x.pay(0, 1, 30), 0);
        dueOne("9: all but for nothing", x, 0, 0, 0, 0, 0, 3);
        x.change(0, 1, 30);
        x.change(0, 2, 4);
        due("9: SMALL ones first", x.pay(0, 1, 30), 0);
        dueOne("9: SLOW ones stay", x, 0, 0, 4, 0, 0, 4);
    }

    private static void payTooLittle() {
        WinkPurses x = new WinkPurses();
        x.person(0, 5);
        x.person(0, 7);
        x.person(5, 0);
        x.change(0, 2, 1);
        due("9: pay(0, 1, 30)", x.pay(0, 1, 30), 6);
        dueOne("9: PAYER owes", x, 0, 0, 0, 6, 0, 1);
        dueOne("9: PAYEE gets less", x, 1, 31, 0, 0, 1, 0);
        due("9: pay(2, 1, 50)", x.pay(2, 1, 50), 150);
        dueOne("9: PAYEE gets nothing, but loses nothing", x, 1, 31, 0, 0, 2, 0);
        dueOne("9: CURATE owes", x, 2, 0, 0, 150, 0, 1);
        x.change(0, 1, 20);
        due("9: pay(0, 2, 26)", x.pay(0, 2, 26), 6);
        due("9: DEBT grows", x.of(0, 3), 12);
        due("9: a CURATE TAKES half, less the rest", x.of(2, 1), 7);
    }

    private static void payAtTheLimits() {
        WinkPurses x = new WinkPurses();
        x.person(0, 0);
        x.person(1, 990);
        x.change(0, 3, 9990);
        x.change(0, 5, 9999);
        x.change(1, 4, 99);
        due("9: what it couldn't pay isn't cut", x.pay(0, 1, 20), 20);
        dueOne("9: DEBT, PAID at most", x, 0, 0, 0, 9999, 0, 9999);
        dueOne("9: WORN at most", x, 1, 994, 0, 0, 99, 0);
        x.change(0, 1, 99);
        due("9: pay(0, 1, 99)", x.pay(0, 1, 99), 0);
        due("9: SMALL at most", x.of(1, 1), 999);
        x.change(0, 1, 999);
        due("9: pay(0, 1, 1)", x.pay(0, 1, 1), 0);
        due("9: SMALL", x.of(0, 1), 998);
    }

    private static void payWrongly() {
        WinkPurses x = new WinkPurses();
        x.person(0, 20);
        due("9: nobody to pay", x.pay(0, 1, 5), Finding.BEYOND);
        x.person(0, 20);
        due("9: one and the same", x.pay(1, 1, 5), Finding.BEYOND);
        due("9: price 0", x.pay(0, 1, 0), Finding.BEYOND);
        due("9: price 100", x.pay(0, 1, 100), Finding.BEYOND);
        due("9: payer 2", x.pay(2, 1, 5), Finding.BEYOND);
        due("9: payer -1", x.pay(-1, 1, 5), Finding.BEYOND);
        due("9: payee -1", x.pay(0, -1, 5), Finding.BEYOND);
        due("9: nothing changed", x.now(7), 0);
        due("9: nothing paid", x.now(1), 40);
    }
}
