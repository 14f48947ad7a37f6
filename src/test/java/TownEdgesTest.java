/** The boundary cases of promises 1 to 9: a new object, the town and its people. */
public final class TownEdgesTest {
    private static final Edges EDGES = new Edges();

    public static void main(String[] args) {
        allAsAtFirst();
        rate();
        falseOnes();
        placesOfTheList();
        everyPayment();
        paymentsOfThoseWhoAreNotThere();
        kindsAndSmallOfANewOne();
        atMostEight();
        aNewOneIsAsAtFirst();
        ofWhom();
        ofWhat();
        greatestPurse();
        changeWhomAndWhat();
        changeFromTheLeastToTheMost();
        changeNothingElse();
        priceOfWhom();
        payWhom();
        payOneAndTheSame();
        payFromOneOn();
        payTakesNoDay();
        EDGES.finish();
    }

    private static void due(String call, long got, long want) {
        EDGES.due(call, got, want);
    }

    /** 1: All as at first; nobody; THE TAPE is empty, no image is kept. */
    private static void allAsAtFirst() {
        int[] nothing = new int[8];
        WinkPurses x = new WinkPurses();
        EDGES.dueStatus("1: a new object", x, nothing);
        int[] now = {0, 0, 0, 0, 0, -1, 0, 0};
        int[] count = {0, 0, 0, 0, 0, 0, 1, 0};
        for (int what = 0; what < 8; what++) {
            due("1: now(" + what + ")", x.now(what), now[what]);
            due("1: count(" + what + ")", x.count(what), count[what]);
        }
        EDGES.dueStatus("1: questions of a new object", x, nothing);
        EDGES.refused("1: nobody", Scene::empty, Finding.BEYOND, y -> y.of(0, 0));
        EDGES.refused("1: no image is kept", Scene::empty, Finding.NONE, y -> y.undo());
        EDGES.asked("1: nothing to tear", Scene::empty, 0, y -> y.tear());
        EDGES.asked("1: THE TAPE is empty", Scene::empty, 0, y -> y.wipe());
        EDGES.asked("1: no TEXT", Scene::empty, -1, y -> y.text());
        for (int i = 0; i < 10; i++) {
            int number = i;
            EDGES.refused("1: a SPOT holds nothing", Scene::empty, Finding.MISSING, y -> y.as(number, 0));
        }
        for (int s = 0; s < 4; s++) {
            int number = s;
            EDGES.refused("1: a sheet is MISSING", Scene::empty, Finding.MISSING, y -> y.load(number));
        }
        x.go(1);
        due("1: another object has its own state", new WinkPurses().now(0), 0);
    }

    /** 2: RATE, 2 to 30; what it was. */
    private static void rate() {
        EDGES.beyond("2: RATE", Scene::town, 2, 30, (x, v) -> x.set(0, v));
        EDGES.refused("2: RATE 0", Scene::town, Finding.BEYOND, x -> x.set(0, 0));
        EDGES.beyond("2: what", Scene::town, 0, 1, (x, v) -> x.set(v, 5));
        WinkPurses x = Scene.town();
        due("2: 2", x.set(0, 2), 13);
        due("2: 3", x.set(0, 3), 2);
        due("2: 29", x.set(0, 29), 3);
        due("2: 30", x.set(0, 30), 29);
        due("2: FALSE stays", x.now(3), 47);
        due("2: PURSE by 30", x.of(2, 6), x.of(2, 1) + 30 * x.of(2, 2));
        due("2: the same again", x.set(0, 30), 30);
        x.set(0, 13);
        EDGES.dueAlike("2: back again", x, Scene.town());
    }

    /** 2: FALSE, 0 to 9999; what it was. */
    private static void falseOnes() {
        EDGES.beyond("2: FALSE", Scene::town, 0, 9999, (x, v) -> x.set(1, v));
        WinkPurses x = Scene.town();
        due("2: 0", x.set(1, 0), 47);
        due("2: 1", x.set(1, 1), 0);
        due("2: 9998", x.set(1, 9998), 1);
        due("2: 9999", x.set(1, 9999), 9998);
        due("2: now(3)", x.now(3), 9999);
        due("2: count(4)", x.count(4), 9999);
        x.set(1, 47);
        EDGES.dueAlike("2: back again", x, Scene.town());
    }

    /** 3, 4: places 0 to 5. */
    private static void placesOfTheList() {
        EDGES.beyond("3: place", Scene::town, 0, 5, (x, v) -> x.list(v, 100));
        EDGES.beyond("4: place", Scene::town, 0, 5, (x, v) -> x.listed(v));
        WinkPurses x = new WinkPurses();
        for (int i = 0; i < 6; i++) {
            due("3: what it was in place " + i, x.list(i, 1000 * i + 7), 100);
        }
        for (int i = 0; i < 6; i++) {
            due("4: place " + i, x.listed(i), 1000 * i + 7);
            due("3: what it is in place " + i, x.list(i, 7799), 1000 * i + 7);
        }
        int[] payments = {107, 1203, 1234, 3405, 4506, 5601};
        for (int i = 0; i < 6; i++) {
            int place = i;
            EDGES.asked("4: place " + i, Scene::town, payments[i], y -> y.listed(place));
        }
    }

    /** 3: a PAYMENT is 0 to 7799, PAYER and PAYEE each 0 to 7. */
    private static void everyPayment() {
        WinkPurses x = new WinkPurses();
        int was = 100;
        int refused = 0;
        for (int payment = -300; payment <= 8300; payment++) {
            if (payment % 500 == 0) {
                due("3: BEYOND ahead of " + payment, x.status(0), refused);
                x = new WinkPurses();
                was = 100;
                refused = 0;
            }
            boolean right = payment >= 0 && payment < 8000 && payment % 1000 < 800;
            due("3: list(3, " + payment + ")", x.list(3, payment), right ? was : Finding.BEYOND);
            was = right ? payment : was;
            refused += right ? 0 : 1;
        }
        int[] wrong = {Integer.MIN_VALUE, -7799, -100, -1, 800, 899, 900, 999, 1800, 6999, 7800, 7900, 8000, 10000, 65536,
            Integer.MAX_VALUE};
        for (int payment : wrong) {
            EDGES.refused("3: list(2, " + payment + ")", Scene::town, Finding.BEYOND, y -> y.list(2, payment));
        }
    }

    /** 3: PAYER and PAYEE are 0 to 7, whether or not there is such a one. */
    private static void paymentsOfThoseWhoAreNotThere() {
        int[] payments = {199, 1099, 1199, 1299, 7699, 7799};
        for (int people = 0; people <= 8; people++) {
            WinkPurses x = new WinkPurses();
            for (int p = 0; p < people; p++) {
                x.person(0, 20);
            }
            for (int i = 0; i < 6; i++) {
                due("3: " + payments[i] + " with " + people, x.list(i, payments[i]), 100);
                due("4: " + payments[i] + " with " + people, x.listed(i), payments[i]);
            }
            due("3: no finding with " + people, x.status(-1), 0);
        }
    }

    /** 5: KINDS 0 to 6, SMALL 0 to 999. */
    private static void kindsAndSmallOfANewOne() {
        EDGES.beyond("5: kind", Scene::town, 0, 6, (x, v) -> x.person(v, 20));
        EDGES.beyond("5: small", Scene::town, 0, 999, (x, v) -> x.person(0, v));
        int[] small = {0, 1, 998, 999};
        for (int kind = 0; kind < 7; kind++) {
            for (int s : small) {
                WinkPurses x = new WinkPurses();
                due("5: person(" + kind + ", " + s + ")", x.person(kind, s), 0);
                due("5: KIND", x.of(0, 0), kind);
                due("5: SMALL", x.of(0, 1), s);
                due("5: PEOPLE", x.count(1), 1);
            }
        }
    }

    /** 5: at most 8; BEYOND is asked ahead of FULL. */
    private static void atMostEight() {
        WinkPurses x = Scene.town();
        due("5: the eighth", x.person(2, 888), 7);
        EDGES.dueAlike("5: the eighth", x, Scene.fullTown());
        EDGES.refused("5: a ninth", Scene::fullTown, Finding.FULL, y -> y.person(0, 20));
        EDGES.refused("5: a ninth of the last kind", Scene::fullTown, Finding.FULL, y -> y.person(6, 999));
        EDGES.refused("5: a ninth with nothing", Scene::fullTown, Finding.FULL, y -> y.person(0, 0));
        EDGES.beyond("5: a ninth, kind", Scene::fullTown, 0, 6, (y, v) -> y.person(v, 20));
        EDGES.beyond("5: a ninth, small", Scene::fullTown, 0, 999, (y, v) -> y.person(0, v));
        WinkPurses z = new WinkPurses();
        for (int i = 0; i < 8; i++) {
            due("5: its number", z.person(i % 7, i), i);
            due("5: PEOPLE", z.count(1), i + 1);
        }
    }

    /** Terms: SLOW, DEBT, WORN, PAID are 0 at first. */
    private static void aNewOneIsAsAtFirst() {
        WinkPurses x = new WinkPurses();
        x.person(4, 7);
        int[] want = {4, 7, 0, 0, 0, 0, 7, 1, 1};
        for (int what = 0; what <= 8; what++) {
            due("5: of(0, " + what + ") of a new one", x.of(0, what), want[what]);
        }
    }

    /** 6: of whom there is one. */
    private static void ofWhom() {
        EDGES.beyond("6: one of seven", Scene::town, 0, 6, (x, v) -> x.of(v, 0));
        EDGES.beyond("6: one of eight", Scene::fullTown, 0, 7, (x, v) -> x.of(v, 6));
        EDGES.refused("6: one of none", Scene::empty, Finding.BEYOND, x -> x.of(0, 0));
        EDGES.asked("6: the first", Scene::fullTown, 0, x -> x.of(0, 0));
        EDGES.asked("6: the eighth", Scene::fullTown, 888, x -> x.of(7, 1));
    }

    /** 6: what 0 to 8. */
    private static void ofWhat() {
        EDGES.beyond("6: what", Scene::town, 0, 8, (x, v) -> x.of(3, v));
        int[] want = {6, 500, 7, 8, 9, 10, 500 + 7 * 30, 5, 1};
        for (int i = 0; i <= 8; i++) {
            int what = i;
            EDGES.asked("6: of(0, " + what + ")", TownEdgesTest::oneForger, want[what], x -> x.of(0, what));
        }
    }

    private static WinkPurses oneForger() {
        WinkPurses x = new WinkPurses();
        Scene.add(x, 6, 500, 7, 8, 9, 10);
        x.set(0, 30);
        return x;
    }

    /** 6: PURSE is SMALL and RATE times SLOW, from none to the most. */
    private static void greatestPurse() {
        WinkPurses x = new WinkPurses();
        x.person(0, 0);
        due("6: PURSE of nothing", x.of(0, 6), 0);
        x.change(0, 1, 999);
        x.change(0, 2, 999);
        x.set(0, 30);
        due("6: the greatest PURSE", x.of(0, 6), 30969);
        x.set(0, 2);
        due("6: by a RATE of 2", x.of(0, 6), 2997);
    }

    /** 7: whom, and what 0 to 5. */
    private static void changeWhomAndWhat() {
        EDGES.beyond("7: one of seven", Scene::town, 0, 6, (x, v) -> x.change(v, 1, 5));
        EDGES.beyond("7: one of eight", Scene::fullTown, 0, 7, (x, v) -> x.change(v, 0, 0));
        EDGES.refused("7: one of none", Scene::empty, Finding.BEYOND, x -> x.change(0, 1, 5));
        EDGES.beyond("7: what", Scene::town, 0, 5, (x, v) -> x.change(3, v, 1));
    }

    /** 7: KIND 0 to 6, SMALL, SLOW 0 to 999, DEBT, PAID 0 to 9999, WORN 0 to 99. */
    private static void changeFromTheLeastToTheMost() {
        int[] most = {6, 999, 999, 9999, 99, 9999};
        for (int i = 0; i < 6; i++) {
            int what = i;
            EDGES.beyond("7: what " + what, Scene::town, 0, most[what], (x, v) -> x.change(3, what, v));
            WinkPurses x = new WinkPurses();
            x.person(0, 0);
            due("7: the most, what " + what, x.change(0, what, most[what]), 0);
            due("7: is told", x.of(0, what), most[what]);
            due("7: one less", x.change(0, what, most[what] - 1), most[what]);
            due("7: none", x.change(0, what, 0), most[what] - 1);
            due("7: one", x.change(0, what, 1), 0);
            due("7: is told", x.of(0, what), 1);
        }
    }

    private static void changeNothingElse() {
        for (int p = 0; p < 8; p++) {
            WinkPurses x = Scene.fullTown();
            int[] was = new int[6];
            for (int what = 0; what < 6; what++) {
                was[what] = x.change(p, what, 5 - what);
            }
            for (int what = 0; what < 6; what++) {
                due("7: of(" + p + ", " + what + ")", x.of(p, what), 5 - what);
                due("7: back again", x.change(p, what, was[what]), 5 - what);
            }
            EDGES.dueAlike("7: all of " + p + " and back again", x, Scene.fullTown());
        }
    }

    /** 8: whom, way 0 and 1, PRICE 0 to 99. */
    private static void priceOfWhom() {
        EDGES.beyond("8: one of seven", Scene::town, 0, 6, (x, v) -> x.price(v, 0, 5));
        EDGES.beyond("8: one of eight", Scene::fullTown, 0, 7, (x, v) -> x.price(v, 1, 5));
        EDGES.refused("8: one of none", Scene::empty, Finding.BEYOND, x -> x.price(0, 0, 5));
        EDGES.beyond("8: way", Scene::town, 0, 1, (x, v) -> x.price(3, v, 5));
        EDGES.beyond("8: PRICE to give", Scene::town, 0, 99, (x, v) -> x.price(3, 0, v));
        EDGES.beyond("8: PRICE to take", Scene::town, 0, 99, (x, v) -> x.price(3, 1, v));
        EDGES.asked("8: the least to give", Scene::fullTown, 0, x -> x.price(7, 0, 0));
        EDGES.asked("8: the most to give", Scene::fullTown, 99, x -> x.price(7, 0, 99));
        EDGES.asked("8: the least to take", Scene::fullTown, 0, x -> x.price(7, 1, 0));
        EDGES.asked("8: the most to take", Scene::fullTown, 99, x -> x.price(7, 1, 99));
        EDGES.asked("8: a CURATE, the most", Scene::fullTown, 297, x -> x.price(5, 0, 99));
        EDGES.asked("8: a KEEPER, the most", Scene::fullTown, 118, x -> x.price(1, 1, 99));
    }

    /** 9: one of whom there is none: BEYOND. */
    private static void payWhom() {
        EDGES.beyond("9: payer of seven", Scene::town, 0, 6, (x, v) -> x.pay(v, 3, 5));
        EDGES.beyond("9: payee of seven", Scene::town, 0, 6, (x, v) -> x.pay(3, v, 5));
        EDGES.beyond("9: payer of eight", Scene::fullTown, 0, 7, (x, v) -> x.pay(v, 3, 5));
        EDGES.beyond("9: payee of eight", Scene::fullTown, 0, 7, (x, v) -> x.pay(3, v, 5));
        EDGES.refused("9: nobody", Scene::empty, Finding.BEYOND, x -> x.pay(0, 1, 5));
        WinkPurses x = Scene.fullTown();
        due("9: the first pays the last", x.pay(0, 7, 5), 0);
        due("9: PAYEE", x.of(7, 1), 893);
        due("9: the last pays the first", x.pay(7, 0, 5), 0);
        due("9: PAYER", x.of(7, 1), 888);
    }

    /** 9: BEYOND: also one and the same. */
    private static void payOneAndTheSame() {
        for (int p = 0; p < 8; p++) {
            int one = p;
            EDGES.refused("9: " + p + " pays itself", Scene::fullTown, Finding.BEYOND, x -> x.pay(one, one, 5));
        }
    }

    /** 9: a PRICE, 1 to 99. */
    private static void payFromOneOn() {
        EDGES.beyond("9: PRICE", Scene::town, 1, 99, (x, v) -> x.pay(0, 1, v));
        int[] prices = {1, 2, 98, 99};
        for (int price : prices) {
            WinkPurses x = Scene.two(100, 0);
            due("9: pay " + price, x.pay(0, 1, price), 0);
            due("9: PAYER", x.of(0, 1), 100 - price);
            due("9: PAYEE", x.of(1, 1), price);
            due("9: PAID", x.of(0, 5), 1);
            due("9: WORN", x.of(1, 4), 1);
        }
    }

    /** 9: as in (1) of a DAY, and no more of it. */
    private static void payTakesNoDay() {
        WinkPurses x = new WinkPurses();
        x.person(6, 190);
        x.person(1, 190);
        x.change(1, 3, 5);
        x.pay(0, 1, 20);
        due("9: DAY stays", x.now(0), 0);
        due("9: FALSE stays", x.now(3), 0);
        due("9: no bank", x.of(1, 2), 0);
        due("9: SMALL", x.of(1, 1), 214);
        due("9: DEBT stays", x.of(1, 3), 5);
        due("9: nothing is earned", x.of(0, 1), 181);
        due("9: THE LIST stays", x.listed(0), 100);
    }
}
