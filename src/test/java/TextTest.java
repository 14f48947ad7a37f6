/** Promises 29 to 31: the tape, and towns from texts. */
public final class TextTest {
    private static final Check CHECK = new Check();

    public static void main(String[] args) {
        feedAndWipe();
        highestByteFirst();
        itemsOfPeople();
        itemsOfTheTown();
        itemByItem();
        faults();
        faultsOfNumbers();
        faultsOfBytes();
        oneTextBehindAnother();
        theNinth();
        aFaultChangesNothing();
        CHECK.finish();
    }

    private static void due(String call, long got, long want) {
        CHECK.due(call, got, want);
    }

    private static void feedText(WinkPurses x, String text) {
        for (int i = 0; i < text.length(); i++) {
            x.feed(text.charAt(i), 1);
        }
    }

    private static int read(WinkPurses x, String text) {
        feedText(x, text);
        return x.text();
    }

    private static void dueFault(String text, int fault) {
        WinkPurses x = new WinkPurses();
        due("31: fault of '" + text + "'", read(x, text), -1 - fault);
        due("31: no finding of '" + text + "'", x.status(-1), 0);
        due("31: nobody by '" + text + "'", x.count(1), 0);
        due("31: RATE by '" + text + "'", x.set(0, 19), 19);
        due("31: tape behind '" + text + "'", x.count(5), 0);
    }

    private static void feedAndWipe() {
        WinkPurses x = new WinkPurses();
        due("29: feed(0, 1)", x.feed(0, 1), 1);
        due("29: feed(0, 2)", x.feed(0, 2), 3);
        due("29: feed(0, 3)", x.feed(0, 3), 6);
        due("29: feed(0, 4)", x.feed(0, 4), 10);
        due("29: n 0", x.feed(0, 0), Finding.BEYOND);
        due("29: n 5", x.feed(0, 5), Finding.BEYOND);
        due("29: n -1", x.feed(0, -1), Finding.BEYOND);
        due("29: how many", x.count(5), 10);
        due("30: wipe()", x.wipe(), 10);
        due("30: wipe() again", x.wipe(), 0);
        for (int i = 1; i <= 29; i++) {
            due("29: feed " + i, x.feed(-1, 4), 4 * i);
        }
        due("29: 118", x.feed(-1, 2), 118);
        due("29: 121 would be too many", x.feed(-1, 3), Finding.FULL);
        due("29: 120", x.feed(-1, 2), 120);
        due("29: FULL", x.feed(-1, 1), Finding.FULL);
        due("29: BEYOND ahead of FULL", x.feed(-1, 5), Finding.BEYOND);
        due("29: how many", x.count(5), 120);
        due("30: wipe()", x.wipe(), 120);
        due("30: none", x.count(5), 0);
    }

    private static void highestByteFirst() {
        WinkPurses x = new WinkPurses();
        x.feed(0x72617465, 4);
        x.feed(0x7f7f2037, 2);
        due("29: 'rate 7'", x.text(), 1);
        due("29: RATE", x.set(0, 19), 7);
        x.feed(0x7a7a7a72, 1);
        x.feed(0x7a617465, 3);
        x.feed(0x00003131, 2);
        due("29: 'rate11'", x.text(), 1);
        due("29: RATE", x.set(0, 19), 11);
    }

    private static void dueOne(String name, WinkPurses x, int person, int... want) {
        for (int i = 0; i < want.length; i++) {
            due("31: " + name + ": of(" + person + ", " + i + ")", x.of(person, i), want[i]);
        }
    }

    private static void itemsOfPeople() {
        WinkPurses x = new WinkPurses();
        due("31: kinds", read(x, "person;keeper;elder;miser;judge;curate;forger"), 7);
        for (int kind = 0; kind < 7; kind++) {
            dueOne("kind " + kind, x, kind, kind, 20, 0, 0, 0, 0);
        }
        WinkPurses y = new WinkPurses();
        due("31: traits", read(y, "person small 999;keeper slow 999;elder owes 9999;miser small 0 slow 0 owes 0"), 4);
        dueOne("small", y, 0, 0, 999, 0, 0, 0, 0);
        dueOne("slow", y, 1, 1, 20, 999, 0, 0, 0);
        dueOne("owes", y, 2, 2, 20, 0, 9999, 0, 0);
        dueOne("none", y, 3, 3, 0, 0, 0, 0, 0);
        due("31: more traits", read(y, "judge small 1 slow 2 owes 3;curate small 4 owes 5;forger slow 6 owes 7"), 3);
        dueOne("all", y, 4, 4, 1, 2, 3, 0, 0);
        dueOne("small, owes", y, 5, 5, 4, 0, 5, 0, 0);
        dueOne("slow, owes", y, 6, 6, 20, 6, 7, 0, 0);
        due("31: an eighth", read(y, "person"), 1);
        due("31: how many", y.count(1), 8);
    }

    private static void itemsOfTheTown() {
        WinkPurses x = new WinkPurses();
        due("31: payments", read(x, "pay 0 0 0 0;pay 5 7 6 99;pay 2 3 3 8"), 3);
        due("31: listed(0)", x.listed(0), 0);
        due("31: listed(5)", x.listed(5), 7699);
        due("31: listed(2)", x.listed(2), 3308);
        due("31: listed(1)", x.listed(1), 100);
        due("31: rate 2", read(x, "rate 2"), 1);
        due("31: RATE", x.set(0, 19), 2);
        due("31: rate 30", read(x, "rate 30"), 1);
        due("31: RATE", x.set(0, 19), 30);
    }

    private static void itemByItem() {
        WinkPurses x = new WinkPurses();
        due("31: the last counts", read(x, "rate 5;pay 0 1 2 3;rate 6;pay 0 2 1 4"), 4);
        due("31: RATE", x.set(0, 19), 6);
        due("31: listed(0)", x.listed(0), 2104);
        due("31: blanks", read(x, "  person   small 5;  rate 7 ;pay 1 0 1 2   "), 3);
        due("31: SMALL", x.of(0, 1), 5);
        due("31: RATE", x.set(0, 19), 7);
        due("31: no blanks", read(x, "judge small0007slow1owes2;rate0000000000000000000009"), 2);
        dueOne("no blanks", x, 1, 4, 7, 1, 2, 0, 0);
        due("31: RATE", x.set(0, 19), 9);
        due("31: the tape is empty then", x.count(5), 0);
        due("31: DAY stays", x.now(0), 0);
    }

    private static void faults() {
        dueFault("", 0);
        dueFault("   ", 3);
        dueFault(";", 0);
        dueFault("  ;", 2);
        dueFault("person;", 7);
        dueFault("person; ", 8);
        dueFault("person;;person", 7);
        dueFault("person person", 7);
        dueFault("person 5", 7);
        dueFault("personsmall 5", 0);
        dueFault("persons", 0);
        dueFault("perso", 0);
        dueFault("personz", 0);
        dueFault("persona", 0);
        dueFault("berson", 0);
        dueFault("persom", 0);
        dueFault("late 5", 0);
        dueFault("person smell 5", 7);
        dueFault("small 5", 0);
        dueFault("5", 0);
        dueFault("person small", 12);
        dueFault("person small ", 13);
        dueFault("person small slow 5", 13);
        dueFault("person small ; rate 5", 13);
        dueFault("person small 5 small 6", 15);
        dueFault("person small 5 6", 15);
        dueFault("person slow 5 small 6", 14);
        dueFault("person owes 5 slow 3", 14);
        dueFault("person owes 5 small 3", 14);
        dueFault("person owes 5 rate 3", 14);
        dueFault("person small 5 rate 3", 15);
        dueFault("rate", 4);
        dueFault("rate;", 4);
        dueFault("rate rate", 5);
        dueFault("rate 5 6", 7);
        dueFault("rate 5 person", 7);
        dueFault("pay", 3);
        dueFault("pay 0 1 2", 9);
        dueFault("pay 0 1 2;", 9);
        dueFault("pay 0 1 2 3 4", 12);
        dueFault("pay 0 1 two 3", 8);
        dueFault("pay;", 3);
        dueFault("rate 5;baby", 7);
    }

    private static void faultsOfNumbers() {
        dueFault("person small 1000", 13);
        dueFault("person slow 1000", 12);
        dueFault("person owes 10000", 12);
        dueFault("person owes 99999", 12);
        dueFault("person owes 4294967297", 12);
        dueFault("person owes 18446744073709551617", 12);
        dueFault("rate 1", 5);
        dueFault("rate 0", 5);
        dueFault("rate 31", 5);
        dueFault("rate 4294967301", 5);
        dueFault("pay 6 0 1 5", 4);
        dueFault("pay 0 8 1 5", 6);
        dueFault("pay 0 0 8 5", 8);
        dueFault("pay 0 0 1 100", 10);
        dueFault("pay 9999 0 1 1", 4);
    }

    private static void faultsOfBytes() {
        dueFault("Person", 0);
        dueFault("person\t", 6);
        dueFault("person\n;person", 6);
        dueFault("rate -5", 5);
        dueFault("rate 5,", 6);
        dueFault("rate 5.", 6);
        dueFault("person `", 7);
        dueFault("person {", 7);
        dueFault("rate /", 5);
        dueFault("rate :", 5);
        dueFault("rate 5" + (char) 0, 6);
        dueFault("rate 5 " + (char) 255, 7);
        dueFault("person" + (char) 160 + "small 5", 6);
        dueFault("" + (char) 225 + (char) 233, 0);
    }

    private static void oneTextBehindAnother() {
        WinkPurses x = new WinkPurses();
        due("31: many blanks", read(x, "rate 5              "), 1);
        due("31: what stood there before doesn't count", read(x, "rate"), -1 - 4);
        due("31: a long number", read(x, "rate 0000000000000007"), 1);
        due("31: a short one", read(x, "rate 2"), 1);
        due("31: RATE", x.set(0, 19), 2);
        due("31: letters", read(x, "rate 7 curatecuratecurate"), -1 - 7);
        due("31: fewer", read(x, "rate 7 ; curate"), 2);
        due("31: nothing", read(x, ""), -1);
        feedText(x, "rate ");
        x.wipe();
        due("30: wiped", read(x, "12"), -1);
    }

    private static void theNinth() {
        WinkPurses x = new WinkPurses();
        due("31: nine", read(x, "elder;elder;elder;elder;elder;elder;elder;elder;elder;baby"), -1 - 48);
        due("31: nobody", x.count(1), 0);
        for (int i = 0; i < 7; i++) {
            x.person(0, i);
        }
        due("31: two more", read(x, "rate 5; judge small 3; judge small 1000"), -1 - 23);
        due("31: seven", x.count(1), 7);
        due("31: a fault ahead of the ninth", read(x, "judge small 1000;judge"), -1 - 12);
        due("31: one more", read(x, "judge small 3"), 1);
        due("31: a ninth one", read(x, "judge"), -1);
        due("31: no one needed", read(x, "rate 8"), 1);
        due("31: eight", x.count(1), 8);
    }

    private static void aFaultChangesNothing() {
        WinkPurses x = new WinkPurses();
        x.person(2, 9);
        x.hold(3, 0);
        x.seed(77);
        x.list(1, 234);
        due("31: a late fault", read(x, "rate 5;person small 3;pay 1 2 3 4;baby"), -1 - 34);
        due("31: RATE", x.set(0, 19), 19);
        due("31: PEOPLE", x.count(1), 1);
        due("31: THE LIST", x.listed(1), 234);
        due("31: z", x.count(6), 77);
        due("31: a SPOT", x.as(3, 2), 0);
        due("31: no finding", x.status(-1), 0);
        due("31: a good one", read(x, "rate 5;person small 3;pay 1 2 3 4"), 3);
        due("31: z", x.count(6), 77);
        due("31: a SPOT", x.as(3, 2), 0);
        due("31: SMALL of the first", x.of(0, 1), 9);
        due("31: SMALL of the second", x.of(1, 1), 3);
    }
}
