import java.util.Arrays;

/** The boundary cases of promises 32 to 38: spots and sheets. */
public final class SheetsEdgesTest {
    private static final Edges EDGES = new Edges();

    public static void main(String[] args) {
        holdSpotAndWhom();
        holdEverySpot();
        asSpotAndKind();
        asMissing();
        asOfAKind();
        sheetBeyond();
        sheetSize();
        sheetFromNoneTo40();
        sheetOfBitsZero();
        sheetIsNew();
        writeBeyond();
        writeFromTheFirstToTheLast();
        writeTheLowestBits();
        copyBeyondAndMissing();
        copyKind();
        copyHasNotSoMany();
        copyFromNoneTo40();
        copyAsTheyAllWere();
        loadBeyond();
        loadFromNoneToSix();
        loadEndsAtTheFirst();
        loadLeavesTheOtherPlaces();
        judgeBeyond();
        judgeFromNoneToMoreThanPeople();
        judgeThePlace();
        EDGES.finish();
    }

    private static void due(String call, long got, long want) {
        EDGES.due(call, got, want);
    }

    private static void dueNumbers(String name, WinkPurses x, int s, int... want) {
        due(name + ": how many", x.load(s), want.length);
        for (int i = 0; i < want.length; i++) {
            due(name + ": number " + i, x.listed(i), want[i]);
        }
    }

    /** 32: SPOTS 0 to 9; one of PEOPLE, or nothing (-1). */
    private static void holdSpotAndWhom() {
        EDGES.beyond("32: spot", Scene::town, 0, 9, (x, v) -> x.hold(v, 3));
        EDGES.beyond("32: spot, nothing", Scene::town, 0, 9, (x, v) -> x.hold(v, -1));
        EDGES.beyond("32: one of seven", Scene::town, -1, 6, (x, v) -> x.hold(0, v));
        EDGES.beyond("32: one of eight", Scene::fullTown, -1, 7, (x, v) -> x.hold(0, v));
        EDGES.beyond("32: one of none", Scene::empty, -1, -1, (x, v) -> x.hold(0, v));
        EDGES.asked("32: nothing in place of nothing", Scene::town, 1, x -> x.hold(1, -1));
        EDGES.asked("32: one in its own place", Scene::town, 1, x -> x.hold(9, 6));
    }

    private static void holdEverySpot() {
        WinkPurses x = Scene.fullTown();
        for (int spot = 0; spot < 10; spot++) {
            due("32: spot " + spot, x.hold(spot, Math.min(spot, 7)), 1);
        }
        due("32: all hold something", x.count(7), 10);
        for (int spot = 0; spot < 10; spot++) {
            due("33: spot " + spot, x.as(spot, 0), Math.min(spot, 7));
        }
        for (int spot = 9; spot >= 0; spot--) {
            due("32: nothing in spot " + spot, x.hold(spot, -1), 1);
            due("32: so many hold something", x.count(7), spot);
        }
    }

    /** 33: BEYOND: spot, kind (0 to 6), ahead of all else. */
    private static void asSpotAndKind() {
        EDGES.beyond("33: spot", Scene::town, 0, 9, (x, v) -> x.as(v, 0));
        EDGES.beyond("33: kind", Scene::town, 0, 6, (x, v) -> x.as(9, v));
        EDGES.beyond("33: kind, MISSING", Scene::town, 0, 6, (x, v) -> x.as(1, v));
        EDGES.beyond("33: spot and kind", Scene::town, 0, 9, (x, v) -> x.as(v, 7));
        EDGES.asked("33: the first spot", Scene::town, 2, x -> x.as(0, 2));
        EDGES.asked("33: the last spot", Scene::town, 6, x -> x.as(9, 6));
    }

    /** 33: MISSING: it holds nothing, ahead of KIND. */
    private static void asMissing() {
        for (int k = 0; k < 7; k++) {
            int kind = k;
            EDGES.refused("33: MISSING as " + k, Scene::town, Finding.MISSING, x -> x.as(1, kind));
            EDGES.refused("33: MISSING at first as " + k, Scene::empty, Finding.MISSING, x -> x.as(0, kind));
        }
    }

    /** 33: KIND: it isn't of that kind, nor of one under it. */
    private static void asOfAKind() {
        String[] underOrSame = {"0", "10", "20", "320", "4320", "50", "610"};
        for (int p = 0; p < 7; p++) {
            for (int k = 0; k < 7; k++) {
                int one = p;
                int kind = k;
                String name = "33: one of kind " + p + " as " + k;
                if (underOrSame[p].indexOf((char) ('0' + k)) >= 0) {
                    EDGES.asked(name, () -> holding(one), one, x -> x.as(5, kind));
                } else {
                    EDGES.refused(name, () -> holding(one), Finding.KIND, x -> x.as(5, kind));
                }
            }
        }
    }

    private static WinkPurses holding(int person) {
        WinkPurses x = Scene.town();
        x.hold(5, person);
        return x;
    }

    /** 34: BEYOND: no such sheet, other bits, ahead of SIZE. */
    private static void sheetBeyond() {
        int[] sizes = {Integer.MIN_VALUE, -1, 0, 5, 40, 41, Integer.MAX_VALUE};
        for (int n : sizes) {
            EDGES.beyond("34: sheet of " + n, Scene::town, 0, 3, (x, v) -> x.sheet(v, 8, n));
            EDGES.beyond("34: sheet of " + n + ", bits 0", Scene::town, 0, 3, (x, v) -> x.sheet(v, 0, n));
            int[] bits = {Integer.MIN_VALUE, -32, -8, -1, 1, 7, 9, 15, 17, 24, 31, 33, 64, 256, Integer.MAX_VALUE};
            for (int b : bits) {
                EDGES.refused("34: bits " + b + ", n " + n, Scene::town, Finding.BEYOND, x -> x.sheet(1, b, n));
            }
        }
    }

    /** 34: SIZE: n is below 0 (also with bits 0). BEYOND: n is above 40. */
    private static void sheetSize() {
        int[] bits = {0, 8, 16, 32};
        for (int b : bits) {
            for (int s = 0; s < 4; s++) {
                int sheet = s;
                EDGES.refused("34: n -1, bits " + b, Scene::town, Finding.SIZE, x -> x.sheet(sheet, b, -1));
                EDGES.refused("34: n MIN, bits " + b, Scene::town, Finding.SIZE, x -> x.sheet(sheet, b, Integer.MIN_VALUE));
                EDGES.refused("34: n 41, bits " + b, Scene::town, Finding.BEYOND, x -> x.sheet(sheet, b, 41));
                EDGES.refused("34: n MAX, bits " + b, Scene::town, Finding.BEYOND, x -> x.sheet(sheet, b, Integer.MAX_VALUE));
            }
        }
    }

    /** 34: n numbers, at most 40, of 8, 16 or 32 bits. */
    private static void sheetFromNoneTo40() {
        int[] sizes = {0, 1, 39, 40};
        for (int bits = 8; bits <= 32; bits *= 2) {
            for (int n : sizes) {
                for (int s = 0; s < 4; s++) {
                    WinkPurses x = new WinkPurses();
                    String name = "34: sheet(" + s + ", " + bits + ", " + n + ")";
                    due(name, x.sheet(s, bits, n), n);
                    due(name + " has so many", x.copy(s, 0, s, 0, n), n);
                    due(name + " has no more", x.copy(s, 0, s, 0, n + 1), Finding.BEYOND);
                    due(name + " isn't MISSING", x.load(s), Math.min(n, 6));
                    for (int t = 0; t < 4; t++) {
                        due(name + " and sheet " + t, x.copy(t, 0, t, 0, 0), t == s ? 0 : Finding.MISSING);
                    }
                }
            }
        }
    }

    /** 34: bits 0: it is MISSING: 0. */
    private static void sheetOfBitsZero() {
        int[] sizes = {0, 1, 40};
        for (int n : sizes) {
            WinkPurses x = Scene.town();
            due("34: sheet(1, 0, " + n + ")", x.sheet(1, 0, n), 0);
            due("34: MISSING then", x.judge(1), Finding.MISSING);
            due("34: the others aren't", x.copy(0, 0, 0, 0, 7), 7);
            EDGES.asked("34: MISSING as it was, " + n, Scene::town, 0, y -> y.sheet(2, 0, n));
        }
    }

    /** 34: all 0, whatever it was. */
    private static void sheetIsNew() {
        for (int bits = 8; bits <= 32; bits *= 2) {
            WinkPurses x = new WinkPurses();
            Scene.tell(x, 0, bits, 1, 2, 3, 4, 5, 6);
            due("34: the same size again", x.sheet(0, bits, 6), 6);
            dueNumbers("34: all 0", x, 0, 0, 0, 0, 0, 0, 0);
            Scene.tell(x, 0, bits, 1, 2, 3, 4, 5, 6);
            due("34: MISSING", x.sheet(0, 0, 0), 0);
            due("34: there again", x.sheet(0, bits, 3), 3);
            due("34: larger", x.sheet(0, bits, 6), 6);
            dueNumbers("34: all 0", x, 0, 0, 0, 0, 0, 0, 0);
            Scene.tell(x, 0, bits, 1, 2, 3, 4, 5, 6);
            due("34: none", x.sheet(0, bits, 0), 0);
            dueNumbers("34: none", x, 0);
            due("34: six again", x.sheet(0, bits, 6), 6);
            dueNumbers("34: all 0", x, 0, 0, 0, 0, 0, 0, 0);
        }
    }

    /** 35: BEYOND: no such sheet. MISSING. BEYOND: no such number. */
    private static void writeBeyond() {
        int[] places = {Integer.MIN_VALUE, -1, 0, 6, 7, 40, Integer.MAX_VALUE};
        for (int i : places) {
            EDGES.beyond("35: sheet, number " + i, Scene::town, 0, 3, (x, v) -> x.write(v, i, 1));
            EDGES.refused("35: MISSING, number " + i, Scene::town, Finding.MISSING, x -> x.write(2, i, 1));
        }
        EDGES.beyond("35: number of 7", Scene::town, 0, 6, (x, v) -> x.write(0, v, 99));
        EDGES.beyond("35: number of 12", Scene::town, 0, 11, (x, v) -> x.write(1, v, 99));
        EDGES.beyond("35: number of 3", Scene::town, 0, 2, (x, v) -> x.write(3, v, 99));
        WinkPurses x = new WinkPurses();
        x.sheet(0, 8, 0);
        due("35: number 0 of none", x.write(0, 0, 1), Finding.BEYOND);
        due("35: number -1 of none", x.write(0, -1, 1), Finding.BEYOND);
        x.sheet(0, 8, 1);
        due("35: number 0 of one", x.write(0, 0, 1), 1);
        due("35: number 1 of one", x.write(0, 1, 1), Finding.BEYOND);
        x.sheet(0, 32, 40);
        due("35: number 39 of 40", x.write(0, 39, 1), 1);
        due("35: number 40 of 40", x.write(0, 40, 1), Finding.BEYOND);
        due("35: findings", x.status(0), 4);
    }

    private static void writeFromTheFirstToTheLast() {
        for (int i = 0; i < 12; i++) {
            WinkPurses x = Scene.town();
            due("35: write(1, " + i + ", 777)", x.write(1, i, 777), 1);
            due("35: back again", x.write(1, i, 21 + i), 1);
            EDGES.dueAlike("35: number " + i + " and back again", x, Scene.town());
            WinkPurses y = new WinkPurses();
            Scene.tell(y, 1, 16, 1, 2, 3, 4, 5, 6);
            if (i < 6) {
                y.write(1, i, 777);
                int[] want = {1, 2, 3, 4, 5, 6};
                want[i] = 777;
                dueNumbers("35: number " + i, y, 1, want);
            }
        }
    }

    private static void dueCut(int bits, int v, int want) {
        WinkPurses x = new WinkPurses();
        x.person(0, want);
        Scene.tell(x, 0, bits, v);
        due("35: " + v + " of " + bits + " bits is " + want, x.judge(0), 0);
    }

    private static void dueNotCut(int bits, int v, int want) {
        WinkPurses x = new WinkPurses();
        x.person(0, want);
        Scene.tell(x, 0, bits, v);
        due("35: " + v + " of " + bits + " bits isn't " + want, x.judge(0), 1);
    }

    /** 35: its lowest bits. */
    private static void writeTheLowestBits() {
        int[] small = {0, 1, 5, 126, 127};
        for (int v : small) {
            dueCut(8, v, v);
            dueCut(8, v + 256, v);
            dueCut(8, v - 256, v);
            dueCut(8, v + 65536, v);
            dueCut(8, Integer.MIN_VALUE + v, v);
            dueCut(16, v, v);
            dueCut(16, Integer.MIN_VALUE + v, v);
            dueNotCut(16, v + 256, v);
            dueNotCut(32, v + 256, v);
            dueNotCut(32, v + 65536, v);
            dueNotCut(32, Integer.MIN_VALUE + v, v);
        }
        int[] more = {128, 255, 256, 999};
        for (int v : more) {
            dueNotCut(8, v, v);
            dueCut(16, v, v);
            dueCut(16, v + 65536, v);
            dueCut(16, v - 65536, v);
            dueCut(32, v, v);
            dueNotCut(32, v + 65536, v);
            dueNotCut(32, v - 65536, v);
        }
        dueCut(8, 256, 0);
        int[] noPayments = {128, 200, 255, -1, -128, 999};
        for (int v : noPayments) {
            WinkPurses x = new WinkPurses();
            Scene.tell(x, 0, 8, v, 1);
            due("35: " + v + " of 8 bits is below 0", x.load(0), 0);
        }
        dueCut(16, 65536, 0);
        dueNotCut(32, 65536, 0);
    }

    /** 36: BEYOND: no such sheet (either). MISSING: one is. */
    private static void copyBeyondAndMissing() {
        int[] others = {-1, 0, 1, 2, 4};
        for (int t : others) {
            EDGES.beyond("36: s, t " + t, Scene::town, 0, 3, (x, v) -> x.copy(v, 0, t, 0, 1));
            EDGES.beyond("36: t, s " + t, Scene::town, 0, 3, (x, v) -> x.copy(t, 0, v, 0, 1));
            EDGES.beyond("36: s, t " + t + ", n -1", Scene::town, 0, 3, (x, v) -> x.copy(v, -1, t, -1, -1));
        }
        int[] counts = {Integer.MIN_VALUE, -1, 0, 1, 41, Integer.MAX_VALUE};
        for (int n : counts) {
            for (int t = 0; t < 4; t++) {
                int other = t;
                EDGES.refused("36: s MISSING, n " + n, Scene::town, Finding.MISSING, x -> x.copy(2, 0, other, 0, n));
                EDGES.refused("36: t MISSING, n " + n, Scene::town, Finding.MISSING, x -> x.copy(other, 0, 2, 0, n));
            }
        }
    }

    /** 36: KIND: they are not of as many bits, ahead of how many. */
    private static void copyKind() {
        int[] counts = {Integer.MIN_VALUE, -1, 0, 1, 41, Integer.MAX_VALUE};
        for (int n : counts) {
            EDGES.refused("36: 8 and 16, n " + n, Scene::town, Finding.KIND, x -> x.copy(0, 0, 1, 0, n));
            EDGES.refused("36: 16 and 8, n " + n, Scene::town, Finding.KIND, x -> x.copy(1, 0, 0, 0, n));
        }
        for (int from = 8; from <= 32; from *= 2) {
            for (int to = 8; to <= 32; to *= 2) {
                WinkPurses x = new WinkPurses();
                Scene.tell(x, 0, from, 5);
                Scene.tell(x, 1, to, 6);
                due("36: " + from + " bits to " + to, x.copy(0, 0, 1, 0, 1), from == to ? 1 : Finding.KIND);
                dueNumbers("36: then", x, 1, from == to ? 5 : 6);
                x.sheet(0, from, 0);
                due("36: none of " + from + " bits to " + to, x.copy(0, 0, 1, 0, 0), from == to ? 0 : Finding.KIND);
            }
        }
    }

    /** 36: BEYOND: one has not so many, or from, to or n is below 0. Sheet 1 has 12 numbers, sheet 3 has 3. */
    private static void copyHasNotSoMany() {
        int[][] wrong = {
            {1, 0, 3, 0, 4}, {1, 9, 3, 0, 4}, {1, 10, 3, 0, 3}, {1, 12, 3, 0, 1}, {1, 11, 3, 0, 2}, {1, 0, 3, 1, 3},
            {1, 0, 3, 2, 2}, {1, 0, 3, 3, 1}, {3, 0, 1, 0, 4}, {3, 1, 1, 0, 3}, {3, 3, 1, 0, 1}, {3, 0, 1, 10, 3},
            {3, 0, 1, 12, 1}, {1, 0, 1, 0, 13}, {1, 1, 1, 0, 12}, {1, 0, 1, 1, 12}, {1, -1, 3, 0, 1}, {1, 0, 3, -1, 1},
            {1, 0, 3, 0, -1}, {1, -1, 3, -1, -1}, {1, -1, 3, 0, 0}, {1, 0, 3, -1, 0}, {1, 1, 3, 1, -1}, {1, 13, 3, 0, -1},
            {1, 12, 3, 3, -1}, {0, 0, 0, 0, 8}, {0, 7, 0, 0, 1},
        };
        for (int[] w : wrong) {
            EDGES.refused("36: copy" + Arrays.toString(w), Scene::town, Finding.BEYOND,
                x -> x.copy(w[0], w[1], w[2], w[3], w[4]));
        }
        int[] far = {Integer.MIN_VALUE, Integer.MIN_VALUE + 1, Integer.MAX_VALUE - 1, Integer.MAX_VALUE};
        for (int v : far) {
            EDGES.refused("36: from " + v, Scene::town, Finding.BEYOND, x -> x.copy(1, v, 3, 0, 1));
            EDGES.refused("36: to " + v, Scene::town, Finding.BEYOND, x -> x.copy(1, 0, 3, v, 1));
            EDGES.refused("36: n " + v, Scene::town, Finding.BEYOND, x -> x.copy(1, 0, 3, 0, v));
            EDGES.refused("36: n " + v + " from 2", Scene::town, Finding.BEYOND, x -> x.copy(1, 2, 3, 2, v));
            for (int w : far) {
                EDGES.refused("36: from " + v + ", n " + w, Scene::town, Finding.BEYOND, x -> x.copy(1, v, 3, 0, w));
                EDGES.refused("36: to " + v + ", n " + w, Scene::town, Finding.BEYOND, x -> x.copy(1, 0, 3, v, w));
            }
        }
    }

    /** 36: n numbers: none, one, all that there are. */
    private static void copyFromNoneTo40() {
        EDGES.asked("36: none", Scene::town, 0, x -> x.copy(1, 0, 3, 0, 0));
        EDGES.asked("36: none from the end on", Scene::town, 0, x -> x.copy(1, 12, 3, 3, 0));
        EDGES.asked("36: all in their own place", Scene::town, 12, x -> x.copy(1, 0, 1, 0, 12));
        WinkPurses x = new WinkPurses();
        Scene.tell(x, 0, 16, 1, 2, 3, 4, 5, 6);
        Scene.tell(x, 1, 16, 11, 12, 13, 14, 15, 16);
        due("36: the last to the first", x.copy(0, 5, 1, 0, 1), 1);
        dueNumbers("36: the last to the first", x, 1, 6, 12, 13, 14, 15, 16);
        due("36: the first to the last", x.copy(0, 0, 1, 5, 1), 1);
        dueNumbers("36: the first to the last", x, 1, 6, 12, 13, 14, 15, 1);
        due("36: the three last", x.copy(0, 3, 1, 2, 3), 3);
        dueNumbers("36: the three last", x, 1, 6, 12, 4, 5, 6, 1);
        dueNumbers("36: those stay", x, 0, 1, 2, 3, 4, 5, 6);
        WinkPurses y = new WinkPurses();
        y.sheet(0, 32, 40);
        y.sheet(3, 32, 40);
        for (int i = 0; i < 40; i++) {
            y.write(0, i, 100 + i);
        }
        due("36: forty", y.copy(0, 0, 3, 0, 40), 40);
        due("36: the last of them", y.copy(3, 34, 3, 0, 6), 6);
        dueNumbers("36: the last of them", y, 3, 134, 135, 136, 137, 138, 139);
    }

    /** 36: as they all were, also within one sheet. */
    private static void copyAsTheyAllWere() {
        for (int from = 0; from <= 6; from++) {
            for (int to = 0; to <= 6; to++) {
                int n = Math.min(6 - from, 6 - to);
                WinkPurses x = new WinkPurses();
                Scene.tell(x, 2, 16, 1, 2, 3, 4, 5, 6);
                int[] want = {1, 2, 3, 4, 5, 6};
                for (int i = 0; i < n; i++) {
                    want[to + i] = from + i + 1;
                }
                due("36: " + n + " from " + from + " to " + to, x.copy(2, from, 2, to, n), n);
                dueNumbers("36: " + n + " from " + from + " to " + to, x, 2, want);
            }
        }
    }

    /** 37: BEYOND: no such sheet. MISSING. */
    private static void loadBeyond() {
        EDGES.beyond("37: sheet", Scene::town, 0, 3, (x, v) -> x.load(v));
        EDGES.refused("37: MISSING", Scene::town, Finding.MISSING, x -> x.load(2));
        for (int s = 0; s < 4; s++) {
            int sheet = s;
            EDGES.refused("37: MISSING at first", Scene::empty, Finding.MISSING, x -> x.load(sheet));
        }
    }

    /** 37: how many came; it ends where there is no place. */
    private static void loadFromNoneToSix() {
        int[] sizes = {0, 1, 2, 5, 6, 7, 8, 39, 40};
        for (int n : sizes) {
            WinkPurses x = new WinkPurses();
            x.sheet(0, 32, n);
            for (int i = 0; i < n; i++) {
                x.write(0, i, 200 + i);
            }
            due("37: of " + n, x.load(0), Math.min(n, 6));
            for (int i = 0; i < 6; i++) {
                due("37: of " + n + ": listed(" + i + ")", x.listed(i), i < n ? 200 + i : 100);
            }
            due("37: no finding", x.status(-1), 0);
        }
    }

    /** 37: it ends at the first that is none (as in list()). */
    private static void loadEndsAtTheFirst() {
        int[] wrong = {-1, 800, 999, 1800, 7800, 8000, 32767, -32768, Integer.MAX_VALUE, Integer.MIN_VALUE};
        for (int w : wrong) {
            for (int place = 0; place < 7; place++) {
                WinkPurses x = new WinkPurses();
                Scene.tell(x, 3, 32, 0, 7799, 799, 7000, 99, 700, 5);
                x.write(3, place, w);
                int[] want = {0, 7799, 799, 7000, 99, 700};
                due("37: " + w + " in place " + place, x.load(3), Math.min(place, 6));
                for (int i = 0; i < 6; i++) {
                    due("37: " + w + " in place " + place + ": listed(" + i + ")", x.listed(i), i < place ? want[i] : 100);
                }
                due("37: no finding", x.status(-1), 0);
            }
        }
        WinkPurses y = new WinkPurses();
        Scene.tell(y, 0, 8, 127, 128);
        due("37: of 8 bits", y.load(0), 1);
        Scene.tell(y, 0, 16, 7799, 65536 + 7799, 7800);
        due("37: of 16 bits", y.load(0), 2);
    }

    /** 37: a place for which no number came stays as it was. */
    private static void loadLeavesTheOtherPlaces() {
        int[] were = {107, 1203, 1234, 3405, 4506, 5601};
        for (int n = 0; n <= 6; n++) {
            WinkPurses x = Scene.town();
            x.sheet(2, 16, n);
            WinkPurses y = Scene.town();
            y.sheet(2, 16, n + 1);
            y.write(2, n, -1);
            for (int i = 0; i < n; i++) {
                x.write(2, i, 7650 + i);
                y.write(2, i, 7650 + i);
            }
            due("37: " + n + " of a town's", x.load(2), n);
            due("37: " + n + " and one that is none", y.load(2), n);
            for (int i = 0; i < 6; i++) {
                due("37: " + n + " came: listed(" + i + ")", x.listed(i), i < n ? 7650 + i : were[i]);
                due("37: " + n + " came, one didn't: listed(" + i + ")", y.listed(i), i < n ? 7650 + i : were[i]);
            }
        }
    }

    /** 38: BEYOND: no such sheet. MISSING. */
    private static void judgeBeyond() {
        EDGES.beyond("38: sheet", Scene::town, 0, 3, (x, v) -> x.judge(v));
        EDGES.refused("38: MISSING", Scene::town, Finding.MISSING, x -> x.judge(2));
        for (int s = 0; s < 4; s++) {
            int sheet = s;
            EDGES.refused("38: MISSING at first", Scene::empty, Finding.MISSING, x -> x.judge(sheet));
        }
        EDGES.asked("38: a question", Scene::town, 1, x -> x.judge(1));
    }

    private static WinkPurses judged(int people, int n) {
        WinkPurses x = new WinkPurses();
        for (int p = 0; p < people; p++) {
            x.person(p % 7, 50 + p);
        }
        x.sheet(0, 8, n);
        for (int i = 0; i < n; i++) {
            x.write(0, i, 50 + i);
        }
        return x;
    }

    /** 38: 0 if so, for no number up to one for each; one for whom there is nobody isn't so. */
    private static void judgeFromNoneToMoreThanPeople() {
        int[] sizes = {0, 1, 6, 7, 8, 9, 40};
        for (int people = 0; people <= 8; people++) {
            int there = people;
            for (int n : sizes) {
                EDGES.asked("38: " + n + " numbers of " + people, () -> judged(there, n), n <= people ? 0 : 1 + people,
                    x -> x.judge(0));
            }
        }
    }

    /** 38: else 1 and the place of the first that isn't so. */
    private static void judgeThePlace() {
        for (int place = 0; place < 8; place++) {
            WinkPurses x = judged(8, 8);
            x.write(0, place, 49 + place);
            due("38: one less in place " + place, x.judge(0), 1 + place);
            x.write(0, 7, 0);
            due("38: the first of two", x.judge(0), 1 + place);
            x.write(0, place, 51 + place);
            due("38: one more in place " + place, x.judge(0), 1 + place);
            x.write(0, place, -1);
            due("38: -1 isn't any", x.judge(0), 1 + place);
        }
        WinkPurses y = judged(2, 2);
        y.change(1, 2, 5);
        due("38: SLOW ones don't count", y.judge(0), 0);
        y.change(0, 1, 999);
        Scene.tell(y, 0, 16, 999, 51);
        due("38: 999", y.judge(0), 0);
        y.change(0, 1, 0);
        Scene.tell(y, 0, 16, 0, 51);
        due("38: 0", y.judge(0), 0);
    }
}
