/** Promises 23 to 25: prices and kinds by told purses. */
public final class ToldPursesTest {
    private static final Check CHECK = new Check();

    public static void main(String[] args) {
        pricesOfThePayer();
        pricesOfThePayee();
        furtherDays();
        placeOfTheDay();
        kindsThatFit();
        wrongly();
        CHECK.finish();
    }

    private static void due(String call, long got, long want) {
        CHECK.due(call, got, want);
    }

    private static void tell(WinkPurses x, int s, int bits, int... numbers) {
        x.sheet(s, bits, numbers.length);
        for (int i = 0; i < numbers.length; i++) {
            x.write(s, i, numbers[i]);
        }
    }

    private static void dueFits(String name, WinkPurses x, int s, int person, int fits, int least) {
        due("23: " + name, x.fits(s, person), fits);
        due("24: " + name, x.paid(s, person), least);
    }

    private static WinkPurses twoPeople() {
        WinkPurses x = new WinkPurses();
        x.person(0, 20);
        x.person(0, 50);
        x.list(0, 107);
        return x;
    }

    private static void pricesOfThePayer() {
        WinkPurses x = twoPeople();
        tell(x, 0, 16, 20, 15);
        dueFits("one price", x, 0, 0, 1, 6);
        tell(x, 0, 16, 20, 0);
        dueFits("all that are too much", x, 0, 0, 79, 21);
        tell(x, 0, 16, 20, 21);
        dueFits("no price", x, 0, 0, 1, 0);
        for (int bits = 8; bits <= 32; bits *= 2) {
            tell(x, 0, bits, -1, -1);
            dueFits("any, of " + bits + " bits", x, 0, 0, 100, 0);
        }
        tell(x, 0, 16, 20);
        dueFits("now alone", x, 0, 0, 100, 0);
        tell(x, 0, 16);
        dueFits("nothing told", x, 0, 0, 100, 0);
        tell(x, 0, 16, 19, -1);
        dueFits("not so now", x, 0, 0, 0, Finding.NONE);
        tell(x, 0, 16, 20, 22);
        dueFits("never so", x, 0, 0, 0, Finding.NONE);
        tell(x, 0, 16, 20, -2);
        dueFits("below -1", x, 0, 0, 0, Finding.NONE);
        due("23: THE LIST stays", x.listed(0), 107);
        due("23: nothing changes", x.of(0, 1), 20);
    }

    private static void pricesOfThePayee() {
        WinkPurses x = twoPeople();
        tell(x, 3, 8, 50, 58);
        dueFits("one price", x, 3, 1, 1, 7);
        tell(x, 3, 8, 50, 71);
        dueFits("all that the other one has", x, 3, 1, 80, 20);
    }

    private static void furtherDays() {
        WinkPurses x = twoPeople();
        tell(x, 1, 32, -1, -1, -1, -1, -1, -1, -1, 7);
        dueFits("paid twice", x, 1, 0, 1, 10);
        tell(x, 1, 32, 20, 11, 12, 13, 14, 15, 16, 7);
        dueFits("each day", x, 1, 0, 1, 10);
        tell(x, 1, 32, 20, 11, 12, 13, 14, 15, 17, 7);
        dueFits("not on one day", x, 1, 0, 0, Finding.NONE);
    }

    private static void placeOfTheDay() {
        WinkPurses x = twoPeople();
        x.list(0, 100);
        x.list(1, 1003);
        x.go(1);
        tell(x, 0, 16, 51, 43);
        dueFits("the second place", x, 0, 1, 1, 9);
        tell(x, 0, 16, 21, 31);
        dueFits("the second place, of the payee", x, 0, 0, 1, 9);
    }

    private static void kindsThatFit() {
        WinkPurses x = new WinkPurses();
        x.person(1, 20);
        tell(x, 2, 8, 20, 25);
        due("25: a FORGER", x.kinds(2, 0), 64);
        tell(x, 2, 8, 20, 21);
        due("25: four of them", x.kinds(2, 0), 1 + 4 + 8 + 16);
        tell(x, 2, 8, 20, 20);
        due("25: KEEPER, CURATE", x.kinds(2, 0), 2 + 32);
        tell(x, 2, 8, -1, -1, -1);
        due("25: any", x.kinds(2, 0), 127);
        tell(x, 2, 8);
        due("25: nothing told", x.kinds(2, 0), 127);
        tell(x, 2, 8, 19);
        due("25: none", x.kinds(2, 0), 0);
        tell(x, 2, 8, -1, -1, -1, -1, -1, -1, -1, 29);
        due("25: by the seventh day", x.kinds(2, 0), 4 + 8 + 16);
        due("25: KIND stays", x.of(0, 0), 1);
        due("25: no finding", x.status(-1), 0);
        x.person(0, 0);
        x.list(0, 120);
        tell(x, 2, 8, 20, 3);
        due("25: one who pays 18", x.kinds(2, 0), 8);
        tell(x, 2, 8, 20, 2);
        due("25: 18, or 19 by RATE", x.kinds(2, 0), 2 + 16);
    }

    private static void wrongly() {
        WinkPurses x = new WinkPurses();
        due("23: sheet 4", x.fits(4, 0), Finding.BEYOND);
        due("24: sheet 4", x.paid(4, 0), Finding.BEYOND);
        due("25: sheet 4", x.kinds(4, 0), Finding.BEYOND);
        due("23: sheet -1", x.fits(-1, 0), Finding.BEYOND);
        due("24: sheet -1", x.paid(-1, 0), Finding.BEYOND);
        due("25: sheet -1", x.kinds(-1, 0), Finding.BEYOND);
        due("23: MISSING ahead of no such one", x.fits(0, 0), Finding.MISSING);
        due("24: MISSING ahead of no such one", x.paid(0, 0), Finding.MISSING);
        due("25: MISSING ahead of no such one", x.kinds(0, 0), Finding.MISSING);
        x.sheet(0, 16, 2);
        due("23: no such one", x.fits(0, 0), Finding.BEYOND);
        due("24: no such one", x.paid(0, 0), Finding.BEYOND);
        due("25: no such one", x.kinds(0, 0), Finding.BEYOND);
        x.person(0, 0);
        due("23: one -1", x.fits(0, -1), Finding.BEYOND);
        due("24: one 1", x.paid(0, 1), Finding.BEYOND);
        due("25: one MAX", x.kinds(0, Integer.MAX_VALUE), Finding.BEYOND);
    }
}
