/** The boundary cases of promises 39 to 43: images, counts and status. */
public final class ImagesEdgesTest {
    private static final Edges EDGES = new Edges();

    public static void main(String[] args) {
        imageOfNothing();
        imageKeepsAllBut();
        imageOfFullAndEmptyTowns();
        undoTakesBackEachAct();
        undoOfNothing();
        undoStays();
        undoTakesTheLatest();
        tearFromNoneOn();
        countFromNoneToSeven();
        countAtTheEdges();
        statusOfOthers();
        statusOfEachFinding();
        statusIsNeverTakenBack();
        statusOfAllCalls();
        EDGES.finish();
    }

    private static void due(String call, long got, long want) {
        EDGES.due(call, got, want);
    }

    /** 39, 40: an image of a new object. */
    private static void imageOfNothing() {
        WinkPurses x = new WinkPurses();
        due("39: image()", x.image(), 1);
        x.person(6, 5);
        x.go(3);
        x.market(2);
        x.set(0, 2);
        x.hold(0, 0);
        due("40: undo()", x.undo(), 0);
        EDGES.dueAlike("40: as at first", Told.ofTown(x), Told.ofTown(new WinkPurses()));
    }

    private static void changeAll(WinkPurses x) {
        x.set(0, 30);
        x.set(1, 9999);
        for (int p = 0; p < 7; p++) {
            for (int what = 0; what < 6; what++) {
                x.change(p, what, 6 - p);
            }
        }
        for (int i = 0; i < 6; i++) {
            x.list(i, 7001 + i);
        }
        for (int spot = 0; spot < 10; spot++) {
            x.hold(spot, spot == 5 ? -1 : spot % 7);
        }
        x.seed(Integer.MIN_VALUE);
        x.person(0, 1);
        x.go(60);
        x.market(20);
    }

    /** 39: All but THE TAPE and SHEETS is kept. */
    private static void imageKeepsAllBut() {
        WinkPurses x = Scene.town();
        x.image();
        changeAll(x);
        due("40: DAY", x.undo(), 5);
        WinkPurses y = Scene.town();
        y.image();
        EDGES.dueAlike("40: all of the town, THE TAPE, SHEETS", x, y);
        WinkPurses z = Scene.town();
        z.image();
        z.wipe();
        z.sheet(0, 0, 0);
        z.write(1, 3, 555);
        z.sheet(2, 32, 4);
        z.sheet(3, 8, 3);
        z.undo();
        due("40: THE TAPE isn't kept", z.count(5), 0);
        due("40: a sheet that went", z.load(0), Finding.MISSING);
        due("40: a sheet that came", z.copy(2, 0, 2, 0, 4), 4);
        due("40: a number that was written", z.load(1), 6);
        due("40: as written", z.listed(3), 555);
        due("40: other bits", z.copy(3, 0, 1, 0, 1), Finding.KIND);
    }

    /** 40: from eight back to none, from none back to eight. */
    private static void imageOfFullAndEmptyTowns() {
        WinkPurses x = Scene.fullTown();
        x.image();
        due("40: FULL", x.person(0, 0), Finding.FULL);
        due("40: undo()", x.undo(), 5);
        due("40: eight", x.count(1), 8);
        due("40: FULL still", x.person(0, 0), Finding.FULL);
        WinkPurses y = new WinkPurses();
        y.image();
        for (int p = 0; p < 8; p++) {
            Scene.add(y, 6, 999, 999, 9999, 99, 9999);
        }
        y.hold(9, 7);
        y.undo();
        due("40: none", y.count(1), 0);
        due("40: PURSES of nobody", y.count(2), 0);
        due("40: nobody owes", y.now(4), 0);
        due("40: nobody is the richest", y.now(5), -1);
        due("40: the spot holds nothing", y.as(9, 6), Finding.MISSING);
        for (int p = 0; p < 8; p++) {
            due("40: room for eight", y.person(0, p), p);
        }
        int[] want = {0, 7, 0, 0, 0, 0};
        for (int what = 0; what < 6; what++) {
            due("40: all new: of(7, " + what + ")", y.of(7, what), want[what]);
        }
        y.undo();
        due("31: room for eight by a TEXT", Scene.read(y, "judge;judge;judge;judge;judge;judge;judge;judge"), 8);
        due("31: all new", y.now(2) + y.now(6) + y.now(7), 0);
    }

    /** 40: each act that changes the town. */
    private static void undoTakesBackEachAct() {
        Edges.Call[] acts = {
            (x, v) -> x.set(0, 2), (x, v) -> x.set(1, 9999), (x, v) -> x.list(5, 7799), (x, v) -> x.person(6, 999),
            (x, v) -> x.change(6, 0, 0), (x, v) -> x.change(0, 1, 999), (x, v) -> x.change(1, 2, 999),
            (x, v) -> x.change(2, 3, 9999), (x, v) -> x.change(3, 4, 99), (x, v) -> x.change(4, 5, 9999),
            (x, v) -> x.pay(5, 6, 99), (x, v) -> x.go(1), (x, v) -> x.go(60), (x, v) -> x.market(1), (x, v) -> x.market(20),
            (x, v) -> x.seed(7), (x, v) -> x.hold(0, -1), (x, v) -> x.hold(8, 6), (x, v) -> x.load(1),
        };
        for (int i = 0; i < acts.length; i++) {
            WinkPurses x = Scene.town();
            x.image();
            acts[i].on(x, 0);
            due("40: undo() of act " + i, x.undo(), 5);
            WinkPurses y = Scene.town();
            y.image();
            EDGES.dueAlike("40: undo() of act " + i, x, y);
        }
        WinkPurses z = Scene.town();
        z.image();
        due("31: a TEXT", z.text(), 2);
        z.undo();
        WinkPurses y = Scene.town();
        y.image();
        y.wipe();
        EDGES.dueAlike("40: undo() of a TEXT, but for THE TAPE", z, y);
    }

    /** 40: NONE: nothing is kept. */
    private static void undoOfNothing() {
        EDGES.refused("40: nothing is kept at first", Scene::empty, Finding.NONE, x -> x.undo());
        EDGES.refused("40: nothing is kept any more", Scene::townWithoutImage, Finding.NONE, x -> x.undo());
    }

    /** 40: what was kept latest (which stays). */
    private static void undoStays() {
        WinkPurses x = Scene.town();
        for (int i = 0; i < 5; i++) {
            due("40: undo() " + i, x.undo(), 4);
            due("40: DAY", x.now(0), 4);
            due("40: RATE", x.set(0, 2 + i), 11);
            x.go(1 + i);
            x.change(0, 1, i);
        }
        due("41: it stays", x.tear(), 1);
    }

    private static void undoTakesTheLatest() {
        WinkPurses x = Scene.town();
        x.image();
        x.go(2);
        x.image();
        x.go(3);
        due("40: the latest", x.undo(), 7);
        due("40: the latest still", x.undo(), 7);
        due("41: one is kept, not three", x.tear(), 1);
        due("40: NONE then", x.undo(), Finding.NONE);
        due("40: DAY stays", x.now(0), 7);
        WinkPurses y = Scene.town();
        y.undo();
        y.image();
        due("40: an image of what was kept", y.undo(), 4);
    }

    /** 41: 1 if something was, else 0. */
    private static void tearFromNoneOn() {
        EDGES.asked("41: nothing at first", Scene::empty, 0, x -> x.tear());
        EDGES.asked("41: nothing any more", Scene::townWithoutImage, 0, x -> x.tear());
        WinkPurses x = Scene.town();
        int[] status = EDGES.statusOf(x);
        due("41: something", x.tear(), 1);
        EDGES.dueStatus("41: something", x, status);
        EDGES.dueAlike("41: something", x, Scene.townWithoutImage());
        WinkPurses y = Scene.townWithoutImage();
        due("39: kept again", y.image(), 1);
        due("40: as it is", y.undo(), 5);
        due("41: kept again", y.tear(), 1);
        due("41: torn again", y.tear(), 0);
    }

    private static WinkPurses counted() {
        WinkPurses x = new WinkPurses();
        x.go(9);
        Scene.add(x, 0, 10, 2, 30);
        Scene.add(x, 1, 100, 1, 400);
        x.set(0, 7);
        x.set(1, 88);
        x.feed(0, 3);
        x.seed(-1000001);
        x.hold(0, 0);
        x.hold(4, 1);
        x.hold(9, 0);
        return x;
    }

    /** 42: 0 to 7. BEYOND: another what. */
    private static void countFromNoneToSeven() {
        EDGES.beyond("42: what", Scene::town, 0, 7, (x, v) -> x.count(v));
        EDGES.beyond("42: what of nobody", Scene::empty, 0, 7, (x, v) -> x.count(v));
        int[] want = {9, 2, 131, 430, 88, 3, -1000001, 3};
        int[] first = {0, 0, 0, 0, 0, 0, 1, 0};
        for (int i = 0; i < 8; i++) {
            int what = i;
            EDGES.asked("42: count(" + what + ")", ImagesEdgesTest::counted, want[what], x -> x.count(what));
            EDGES.asked("42: count(" + what + ") at first", Scene::empty, first[what], x -> x.count(what));
        }
    }

    private static void countAtTheEdges() {
        WinkPurses x = Scene.fullTown();
        due("42: PEOPLE at most", x.count(1), 8);
        for (int spot = 0; spot < 10; spot++) {
            x.hold(spot, 0);
        }
        due("42: SPOTS at most", x.count(7), 10);
        x.wipe();
        for (int i = 0; i < 30; i++) {
            x.feed(0, 4);
        }
        due("42: bytes at most", x.count(5), 120);
        x.seed(Integer.MIN_VALUE);
        due("42: z", x.count(6), Integer.MIN_VALUE);
        x.seed(Integer.MAX_VALUE);
        due("42: z", x.count(6), Integer.MAX_VALUE);
    }

    /** 43: BEYOND (counted from then on): another one. */
    private static void statusOfOthers() {
        EDGES.beyond("43: which", Scene::town, -1, 6, (x, v) -> x.status(v));
        EDGES.beyond("43: which of a new object", Scene::empty, -1, 6, (x, v) -> x.status(v));
        WinkPurses x = new WinkPurses();
        for (int i = 0; i < 5; i++) {
            due("43: BEYOND so far", x.status(0), i);
            due("43: all so far", x.status(-1), i);
            due("43: status(7)", x.status(7), Finding.BEYOND);
        }
        for (int which = -1; which < 7; which++) {
            int number = which;
            EDGES.asked("43: status(" + which + ") of a new object", Scene::empty, 0, y -> y.status(number));
        }
    }

    /** 43: 0 to 6: BEYOND to SIZE, each its own; -1: all. */
    private static void statusOfEachFinding() {
        WinkPurses x = Scene.fullTown();
        x.tear();
        int[] want = EDGES.statusOf(x);
        for (int i = 1; i <= 3; i++) {
            due("43: BEYOND", x.of(8, 0), Finding.BEYOND);
            due("43: BEYOND in longs", x.odds(8, 0, 0), Finding.BEYOND);
            due("43: FULL", x.person(0, 0), Finding.FULL);
            due("43: KIND", x.as(0, 6), Finding.KIND);
            due("43: NONE", x.undo(), Finding.NONE);
            due("43: MISSING", x.judge(2), Finding.MISSING);
            due("43: SIZE", x.sheet(0, 8, -1), Finding.SIZE);
            int[] more = {7, 2, 1, 1, 1, 0, 1, 1};
            for (int which = 0; which < 8; which++) {
                want[which] += more[which];
            }
            EDGES.dueStatus("43: " + i + " times", x, want);
        }
        due("43: no finding", x.seed(-1000003), 55);
        due("43: no finding", x.seed(0), -1000003);
        due("43: no finding, a FAULT", Scene.read(x, "#"), -19);
        due("43: no finding", new WinkPurses().now(5), -1);
        EDGES.dueStatus("43: no findings", x, want);
    }

    /** 43: ever (undo() takes none back). */
    private static void statusIsNeverTakenBack() {
        WinkPurses x = Scene.fullTown();
        x.image();
        x.of(8, 0);
        x.person(0, 0);
        x.as(0, 6);
        x.forged(9999);
        x.judge(2);
        x.sheet(0, 8, -1);
        int[] status = EDGES.statusOf(x);
        x.undo();
        EDGES.dueStatus("43: behind undo()", x, status);
        x.tear();
        x.image();
        EDGES.dueStatus("43: behind tear(), image()", x, status);
        due("43: all of them", status[0], 1 + 6);
    }

    /** 43: an object is used for at most 512 calls: 511 findings, and what the last call tells of them. */
    private static void statusOfAllCalls() {
        WinkPurses x = new WinkPurses();
        WinkPurses y = new WinkPurses();
        for (int i = 0; i < 511; i++) {
            x.undo();
            y.sheet(3, 32, Integer.MIN_VALUE);
        }
        due("43: NONE 511 times", x.status(3), 511);
        due("43: SIZE 511 times", y.status(-1), 511);
    }
}
