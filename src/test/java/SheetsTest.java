/** Promises 32 to 38: spots and sheets. */
public final class SheetsTest {
    private static final Check CHECK = new Check();

    public static void main(String[] args) {
        holdTells();
        asTells();
        asFollowsKinds();
        sheetTells();
        sheetWrongly();
        writeTells();
        lowestBits();
        copyTells();
        copyWithin();
        copyWrongly();
        loadTells();
        judgeTells();
        CHECK.finish();
    }

    private static void due(String call, long got, long want) {
        CHECK.due(call, got, want);
    }

    private static void tell(WinkPurses x, int s, int bits, int... numbers) {
        x.sheet(s, bits, numbers.length);
        for (int i = 0; i < numbers.length; i++) {
            x.write(s, i, numbers[i]);
        }
    }

    /** What a sheet's first numbers are, if they are payments, by way of the list. */
    private static void dueNumbers(String name, WinkPurses x, int s, int... want) {
        due(name + ": how many", x.load(s), want.length);
        for (int i = 0; i < want.length; i++) {
            due(name + ": number " + i, x.listed(i), want[i]);
        }
    }

    private static void holdTells() {
        WinkPurses x = new WinkPurses();
        due("32: nothing", x.hold(0, -1), 1);
        due("32: no such one", x.hold(0, 0), Finding.BEYOND);
        x.person(0, 1);
        x.person(1, 2);
        due("32: hold(0, 0)", x.hold(0, 0), 1);
        due("32: hold(9, 1)", x.hold(9, 1), 1);
        due("32: hold(5, 1)", x.hold(5, 1), 1);
        due("32: three", x.count(7), 3);
        due("32: hold(5, 0)", x.hold(5, 0), 1);
        due("32: another one", x.as(5, 0), 0);
        due("32: three still", x.count(7), 3);
        due("32: hold(5, -1)", x.hold(5, -1), 1);
        due("32: two", x.count(7), 2);
        due("32: spot 10", x.hold(10, 0), Finding.BEYOND);
        due("32: spot -1", x.hold(-1, 0), Finding.BEYOND);
        due("32: spot 10, nothing", x.hold(10, -1), Finding.BEYOND);
        due("32: one -2", x.hold(0, -2), Finding.BEYOND);
        due("32: one 2", x.hold(0, 2), Finding.BEYOND);
        due("32: it stays", x.as(0, 0), 0);
    }

    private static void asTells() {
        boolean[][] under = new boolean[7][7];
        int[][] chains = {{0}, {1, 0}, {2, 0}, {3, 2, 0}, {4, 3, 2, 0}, {5, 0}, {6, 1, 0}};
        for (int kind = 0; kind < 7; kind++) {
            for (int above : chains[kind]) {
                under[kind][above] = true;
            }
        }
        WinkPurses x = new WinkPurses();
        for (int kind = 0; kind < 7; kind++) {
            x.person(kind, 0);
            x.hold(9 - kind, kind);
        }
        for (int kind = 0; kind < 7; kind++) {
            for (int wanted = 0; wanted < 7; wanted++) {
                due("33: kind " + kind + " as " + wanted, x.as(9 - kind, wanted), under[kind][wanted] ? kind : Finding.KIND);
            }
        }
        due("33: nothing", x.as(0, 0), Finding.MISSING);
        due("33: kind 7", x.as(9, 7), Finding.BEYOND);
        due("33: kind -1", x.as(9, -1), Finding.BEYOND);
        due("33: BEYOND ahead of MISSING", x.as(0, 7), Finding.BEYOND);
        due("33: spot 10", x.as(10, 0), Finding.BEYOND);
        due("33: spot -1", x.as(-1, 0), Finding.BEYOND);
    }

    private static void asFollowsKinds() {
        WinkPurses x = new WinkPurses();
        x.person(0, 0);
        x.hold(4, 0);
        due("33: a PERSON as an ELDER", x.as(4, 2), Finding.KIND);
        x.change(0, 0, 4);
        due("33: a JUDGE as an ELDER", x.as(4, 2), 0);
        x.hold(4, -1);
        due("33: nothing as an ELDER", x.as(4, 2), Finding.MISSING);
    }

    private static void sheetTells() {
        WinkPurses x = new WinkPurses();
        due("34: sheet(0, 8, 40)", x.sheet(0, 8, 40), 40);
        due("34: sheet(1, 16, 0)", x.sheet(1, 16, 0), 0);
        due("34: sheet(3, 32, 7)", x.sheet(3, 32, 7), 7);
        due("34: one of no numbers isn't MISSING", x.judge(1), 0);
        due("34: another one is", x.judge(2), Finding.MISSING);
        due("34: sheet(0, 0, 5)", x.sheet(0, 0, 5), 0);
        due("34: MISSING", x.judge(0), Finding.MISSING);
        due("34: MISSING again", x.sheet(0, 0, 0), 0);
        tell(x, 2, 16, 101, 102, 103);
        due("34: new", x.sheet(2, 16, 4), 4);
        dueNumbers("34: all 0", x, 2, 0, 0, 0, 0);
    }

    private static void sheetWrongly() {
        WinkPurses x = new WinkPurses();
        tell(x, 0, 16, 123);
        due("34: s 4", x.sheet(4, 8, 1), Finding.BEYOND);
        due("34: s -1", x.sheet(-1, 8, 1), Finding.BEYOND);
        due("34: bits 7", x.sheet(0, 7, 1), Finding.BEYOND);
        due("34: bits 24", x.sheet(0, 24, 1), Finding.BEYOND);
        due("34: bits 64", x.sheet(0, 64, 1), Finding.BEYOND);
        due("34: bits -8", x.sheet(0, -8, 1), Finding.BEYOND);
        due("34: n -1", x.sheet(0, 8, -1), Finding.SIZE);
        due("34: n -1 with bits 0", x.sheet(0, 0, -1), Finding.SIZE);
        due("34: n MIN", x.sheet(0, 8, Integer.MIN_VALUE), Finding.SIZE);
        due("34: bits ahead of SIZE", x.sheet(0, 7, -1), Finding.BEYOND);
        due("34: n 41", x.sheet(0, 32, 41), Finding.BEYOND);
        due("34: n 41 with bits 0", x.sheet(0, 0, 41), Finding.BEYOND);
        due("34: n MAX", x.sheet(0, 32, Integer.MAX_VALUE), Finding.BEYOND);
        dueNumbers("34: it stays", x, 0, 123);
        due("34: SIZE counted", x.status(6), 3);
    }

    private static void writeTells() {
        WinkPurses x = new WinkPurses();
        due("35: MISSING", x.write(0, 0, 1), Finding.MISSING);
        due("35: MISSING ahead of no such number", x.write(0, -1, 1), Finding.MISSING);
        due("35: s 4", x.write(4, 0, 1), Finding.BEYOND);
        due("35: s -1", x.write(-1, 0, 1), Finding.BEYOND);
        x.sheet(0, 32, 3);
        due("35: write(0, 0, 7)", x.write(0, 0, 7), 1);
        due("35: write(0, 2, 9)", x.write(0, 2, 9), 1);
        due("35: number 3", x.write(0, 3, 1), Finding.BEYOND);
        due("35: number -1", x.write(0, -1, 1), Finding.BEYOND);
        due("35: number MAX", x.write(0, Integer.MAX_VALUE, 1), Finding.BEYOND);
        dueNumbers("35: written", x, 0, 7, 0, 9);
        x.sheet(1, 8, 0);
        due("35: no number", x.write(1, 0, 1), Finding.BEYOND);
    }

    private static void lowestBits() {
        WinkPurses x = new WinkPurses();
        tell(x, 0, 8, 300, -211, 127);
        dueNumbers("35: 8 bits", x, 0, 44, 45, 127);
        tell(x, 0, 8, 127, 128);
        dueNumbers("35: 128 of 8 bits is below 0", x, 0, 127);
        tell(x, 0, 16, 65536 + 7799, -65536 + 105, 300);
        dueNumbers("35: 16 bits", x, 0, 7799, 105, 300);
        tell(x, 0, 32, 65536 + 105, 5);
        dueNumbers("35: 32 bits", x, 0);
        tell(x, 0, 32, 7799, 300);
        dueNumbers("35: 32 bits", x, 0, 7799, 300);
    }

    private static void copyTells() {
        WinkPurses x = new WinkPurses();
        tell(x, 0, 16, 101, 102, 103, 104);
        tell(x, 1, 16, 201, 202, 203, 204, 205);
        due("36: copy(0, 1, 1, 2, 2)", x.copy(0, 1, 1, 2, 2), 2);
        dueNumbers("36: come", x, 1, 201, 202, 102, 103, 205);
        dueNumbers("36: stay", x, 0, 101, 102, 103, 104);
        due("36: none", x.copy(0, 4, 1, 5, 0), 0);
        due("36: all", x.copy(0, 0, 1, 1, 4), 4);
        dueNumbers("36: all came", x, 1, 201, 101, 102, 103, 104);
    }

    private static void copyWithin() {
        WinkPurses x = new WinkPurses();
        tell(x, 2, 32, 101, 102, 103, 104, 105);
        due("36: forth", x.copy(2, 0, 2, 1, 4), 4);
        dueNumbers("36: as they were", x, 2, 101, 101, 102, 103, 104);
        due("36: back", x.copy(2, 1, 2, 0, 4), 4);
        dueNumbers("36: as they were", x, 2, 101, 102, 103, 104, 104);
    }

    private static void copyWrongly() {
        WinkPurses x = new WinkPurses();
        due("36: s 4", x.copy(4, 0, 0, 0, 0), Finding.BEYOND);
        due("36: t 4", x.copy(0, 0, 4, 0, 0), Finding.BEYOND);
        due("36: s -1", x.copy(-1, 0, 0, 0, 0), Finding.BEYOND);
        due("36: t -1", x.copy(0, 0, -1, 0, 0), Finding.BEYOND);
        due("36: both MISSING", x.copy(0, 0, 1, 0, -1), Finding.MISSING);
        tell(x, 0, 16, 101, 102, 103);
        due("36: t MISSING", x.copy(0, 0, 1, 0, 1), Finding.MISSING);
        due("36: s MISSING", x.copy(1, 0, 0, 0, 1), Finding.MISSING);
        tell(x, 1, 8, 1, 2, 3);
        due("36: KIND", x.copy(0, 0, 1, 0, 1), Finding.KIND);
        due("36: KIND ahead of n", x.copy(0, 0, 1, 0, -1), Finding.KIND);
        tell(x, 1, 16, 201, 202);
        due("36: t has not so many", x.copy(0, 0, 1, 0, 3), Finding.BEYOND);
        due("36: s has not so many", x.copy(1, 0, 0, 0, 3), Finding.BEYOND);
        due("36: from on", x.copy(1, 1, 0, 0, 2), Finding.BEYOND);
        due("36: to on", x.copy(0, 0, 1, 1, 2), Finding.BEYOND);
        due("36: from -1", x.copy(0, -1, 1, 0, 1), Finding.BEYOND);
        due("36: to -1", x.copy(0, 0, 1, -1, 1), Finding.BEYOND);
        due("36: n -1", x.copy(0, 0, 1, 0, -1), Finding.BEYOND);
        due("36: from 4, none", x.copy(0, 4, 1, 0, 0), Finding.BEYOND);
        due("36: to 3, none", x.copy(0, 0, 1, 3, 0), Finding.BEYOND);
        due("36: from MAX", x.copy(0, Integer.MAX_VALUE, 1, 0, 1), Finding.BEYOND);
        due("36: n MAX", x.copy(0, 1, 1, 1, Integer.MAX_VALUE), Finding.BEYOND);
        due("36: n MIN", x.copy(0, 0, 1, 0, Integer.MIN_VALUE), Finding.BEYOND);
        due("36: from MIN, n MIN", x.copy(0, Integer.MIN_VALUE, 1, 0, Integer.MIN_VALUE), Finding.BEYOND);
        dueNumbers("36: it stays", x, 1, 201, 202);
    }

    private static void loadTells() {
        WinkPurses x = new WinkPurses();
        due("37: s 4", x.load(4), Finding.BEYOND);
        due("37: s -1", x.load(-1), Finding.BEYOND);
        due("37: MISSING", x.load(0), Finding.MISSING);
        tell(x, 0, 16, 0, 7799, 1234, 5, 606, 7007, 8, 9);
        dueNumbers("37: six places", x, 0, 0, 7799, 1234, 5, 606, 7007);
        tell(x, 0, 16, 111, 222, 800, 333);
        due("37: the first that is none", x.load(0), 2);
        due("37: came", x.listed(1), 222);
        due("37: stays", x.listed(2), 1234);
        due("37: stays behind it", x.listed(3), 5);
        tell(x, 0, 16, -1, 1);
        due("37: none at all", x.load(0), 0);
        due("37: stays", x.listed(0), 111);
        tell(x, 0, 16, 8000);
        due("37: 8000", x.load(0), 0);
        tell(x, 0, 16);
        due("37: no numbers", x.load(0), 0);
        due("37: findings", x.status(-1), 3);
    }

    private static void judgeTells() {
        WinkPurses x = new WinkPurses();
        due("38: s 4", x.judge(4), Finding.BEYOND);
        due("38: s -1", x.judge(-1), Finding.BEYOND);
        due("38: MISSING", x.judge(0), Finding.MISSING);
        tell(x, 0, 16, 20);
        due("38: nobody", x.judge(0), 1);
        x.person(0, 20);
        x.person(3, 300);
        x.change(1, 2, 5);
        due("38: the first alone", x.judge(0), 0);
        tell(x, 0, 16, 20, 300);
        due("38: both", x.judge(0), 0);
        tell(x, 0, 16, 20, 301);
        due("38: the second", x.judge(0), 2);
        tell(x, 0, 16, 21, 301);
        due("38: the first of two", x.judge(0), 1);
        tell(x, 0, 16, 20, 300, 0);
        due("38: one of whom there is none", x.judge(0), 3);
        tell(x, 0, 16);
        due("38: no numbers", x.judge(0), 0);
        tell(x, 0, 8, 20, 300);
        due("38: 300 in 8 bits", x.judge(0), 2);
    }
}
