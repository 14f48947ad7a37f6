/** Promises 39 to 43: images, counts and status. */
public final class ImagesTest {
    private static final Check CHECK = new Check();

    public static void main(String[] args) {
        imageKeepsTheTown();
        newOnesAreNew();
        tapeAndSheetsStay();
        theLatestCounts();
        tearing();
        imageOfAFailedText();
        counts();
        statusCounts();
        statusOfItself();
        CHECK.finish();
    }

    private static void due(String call, long got, long want) {
        CHECK.due(call, got, want);
    }

    private static void imageKeepsTheTown() {
        WinkPurses x = new WinkPurses();
        x.set(0, 11);
        x.set(1, 22);
        x.person(1, 33);
        x.change(0, 2, 4);
        x.change(0, 3, 5);
        x.change(0, 4, 6);
        x.change(0, 5, 7);
        x.list(2, 345);
        x.seed(99);
        x.hold(1, 0);
        due("39: image()", x.image(), 1);
        x.set(0, 12);
        x.set(1, 23);
        for (int what = 0; what < 6; what++) {
            x.change(0, what, 0);
        }
        x.person(0, 0);
        x.list(2, 543);
        x.hold(1, -1);
        x.hold(2, 1);
        x.go(7);
        x.market(1);
        due("40: undo()", x.undo(), 0);
        int[] want = {1, 33, 4, 5, 6, 7};
        for (int what = 0; what < 6; what++) {
            due("40: of(0, " + what + ")", x.of(0, what), want[what]);
        }
        due("40: PEOPLE", x.count(1), 1);
        due("40: FALSE", x.count(4), 22);
        due("40: z", x.count(6), 99);
        due("40: SPOTS", x.count(7), 1);
        due("40: a SPOT", x.as(1, 1), 0);
        due("40: THE LIST", x.listed(2), 345);
        due("40: THE LIST by the market", x.listed(1), 100);
        due("40: RATE", x.set(0, 2), 11);
        due("40: undo() again", x.undo(), 0);
        due("40: RATE again", x.set(0, 2), 11);
        x.go(9);
        x.image();
        x.go(8);
        due("40: DAY", x.undo(), 9);
    }

    private static void newOnesAreNew() {
        WinkPurses x = new WinkPurses();
        x.person(0, 1);
        x.image();
        x.person(6, 999);
        for (int what = 2; what < 6; what++) {
            x.change(1, what, 9);
        }
        x.undo();
        due("40: who went has no DEBT", x.now(4), 0);
        due("40: nor a PURSE", x.now(1), 1);
        due("40: nor a coin", x.now(6), 0);
        due("40: isn't the richest", x.now(5), 0);
        due("40: forges nothing", x.forged(1), Finding.NONE);
        due("40: is nobody", x.of(1, 0), Finding.BEYOND);
        due("5: a new one", x.person(2, 3), 1);
        int[] want = {2, 3, 0, 0, 0, 0};
        for (int what = 0; what < 6; what++) {
            due("5: of(1, " + what + ")", x.of(1, what), want[what]);
        }
    }

    private static void tapeAndSheetsStay() {
        WinkPurses x = new WinkPurses();
        x.feed(65, 1);
        x.sheet(0, 16, 2);
        x.sheet(1, 16, 2);
        x.image();
        x.feed(66, 1);
        x.sheet(0, 0, 0);
        x.write(1, 0, 123);
        x.sheet(2, 8, 1);
        x.undo();
        due("40: THE TAPE", x.count(5), 2);
        due("40: a sheet that went", x.judge(0), Finding.MISSING);
        due("40: a sheet that came", x.judge(2), 1);
        due("40: a number", x.load(1), 2);
        due("40: as written", x.listed(0), 123);
    }

    private static void theLatestCounts() {
        WinkPurses x = new WinkPurses();
        x.person(0, 1);
        x.image();
        x.change(0, 1, 2);
        x.image();
        x.change(0, 1, 3);
        x.undo();
        due("40: the latest", x.of(0, 1), 2);
        x.undo();
        due("40: the latest stays", x.of(0, 1), 2);
    }

    private static void tearing() {
        WinkPurses x = new WinkPurses();
        due("40: nothing is kept", x.undo(), Finding.NONE);
        due("41: tear() of nothing", x.tear(), 0);
        x.image();
        x.image();
        due("41: tear()", x.tear(), 1);
        due("41: tear() again", x.tear(), 0);
        due("40: nothing is kept", x.undo(), Finding.NONE);
        x.go(3);
        x.image();
        x.go(3);
        due("40: undo()", x.undo(), 3);
        due("41: still kept", x.tear(), 1);
        due("41: DAY stays", x.now(0), 3);
        due("40: findings", x.status(3), 2);
    }

    private static void imageOfAFailedText() {
        WinkPurses x = new WinkPurses();
        x.person(0, 8);
        x.image();
        x.feed(0x62616279, 4);
        due("31: 'baby'", x.text(), -1);
        x.ahead(0, 1, 100);
        due("40: what is tried isn't kept", x.undo(), 0);
        due("40: SMALL", x.of(0, 1), 8);
    }

    private static void counts() {
        WinkPurses x = new WinkPurses();
        x.person(0, 10);
        x.person(2, 20);
        x.change(1, 2, 3);
        x.change(0, 3, 4);
        x.change(1, 3, 40);
        x.set(1, 55);
        x.feed(0, 3);
        x.seed(-8);
        x.hold(0, 0);
        x.hold(9, 1);
        long[] want = {0, 2, 87, 44, 55, 3, -8, 2};
        for (int what = 0; what < 8; what++) {
            due("42: count(" + what + ")", x.count(what), want[what]);
        }
        x.go(2);
        due("42: DAY", x.count(0), 2);
        due("42: what 8", x.count(8), Finding.BEYOND);
        due("42: what -1", x.count(-1), Finding.BEYOND);
    }

    private static void statusCounts() {
        WinkPurses x = new WinkPurses();
        x.of(0, 0);
        x.now(99);
        x.sheet(0, 8, -1);
        x.undo();
        x.judge(3);
        x.judge(3);
        x.hold(0, -1);
        for (int i = 0; i < 8; i++) {
            x.person(0, 1);
        }
        x.image();
        x.person(0, 1);
        x.person(0, 1);
        x.person(0, 1);
        x.hold(0, 0);
        x.as(0, 6);
        x.odds(9, 0, 0);
        x.undo();
        int[] want = {3, 3, 1, 1, 0, 2, 1};
        for (int which = 0; which < 7; which++) {
            due("43: status(" + which + ")", x.status(which), want[which]);
        }
        due("43: all", x.status(-1), 11);
        due("43: all, asked again", x.status(-1), 11);
    }

    private static void statusOfItself() {
        WinkPurses x = new WinkPurses();
        due("43: none", x.status(-1), 0);
        due("43: status(7)", x.status(7), Finding.BEYOND);
        due("43: counted", x.status(0), 1);
        due("43: status(-2)", x.status(-2), Finding.BEYOND);
        due("43: status(MAX)", x.status(Integer.MAX_VALUE), Finding.BEYOND);
        due("43: counted", x.status(0), 3);
        due("43: all", x.status(-1), 3);
    }
}
