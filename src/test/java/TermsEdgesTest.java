/** The boundary cases of the document's terms: findings, kinds, what a day does, draws. */
public final class TermsEdgesTest {
    private static final Edges EDGES = new Edges();
    private static final int[] NOBODYS = {0, 0, 0, 0, 0};

    public static void main(String[] args) {
        findingsAreNumbers();
        givesOfEveryPrice();
        givesByWorn();
        givesOfAJudge();
        takesOfEveryPrice();
        earnsByDay();
        earnsBySlow();
        changesBySmall();
        aPriceOfNoneOrOne();
        enoughOrNot();
        slowOnesOneByOne();
        whatCostsNothing();
        debtAndPaidAtMost();
        wornAtMost();
        payeeAtMost();
        payeeLess();
        earnsAtMost();
        falseAtMost();
        repaysWhatItCan();
        bankByRate();
        bankOfOthers();
        bankWhenFull();
        bankWears();
        allOfEight();
        placesOfTheList();
        oneOfWhomThereIsNone();
        draws();
        EDGES.finish();
    }

    private static void due(String call, long got, long want) {
        EDGES.due(call, got, want);
    }

    private static void dueOne(String name, WinkPurses x, int p, int[] want) {
        for (int i = 0; i < want.length; i++) {
            due(name + ": of(" + p + ", " + (i + 1) + ")", x.of(p, i + 1), want[i]);
        }
    }

    private static int[] has(int... traits) {
        return traits;
    }

    /** FINDINGS are LOW (-1000001) and below, each its own number, in longs too. */
    private static void findingsAreNumbers() {
        WinkPurses x = new WinkPurses();
        due("BEYOND", x.of(0, 0), -1000001);
        due("NONE", x.undo(), -1000004);
        due("MISSING", x.judge(0), -1000006);
        due("SIZE", x.sheet(0, 8, -1), -1000007);
        due("BEYOND in longs", x.odds(0, 0, 0), -1000001L);
        for (int i = 0; i < 8; i++) {
            x.person(0, 0);
        }
        due("FULL", x.person(0, 0), -1000002);
        x.hold(0, 0);
        due("KIND", x.as(0, 1), -1000003);
        int[] want = {2, 1, 1, 1, 0, 1, 1};
        for (int which = 0; which < 7; which++) {
            due("status(" + which + ")", x.status(which), want[which]);
        }
    }

    private static int times(int part, int whole) {
        int count = 0;
        for (int left = whole; left >= part; left -= part) {
            count++;
        }
        return count;
    }

    /** Quotients are cut: a tenth, and half, of every PRICE. */
    private static void givesOfEveryPrice() {
        WinkPurses x = new WinkPurses();
        for (int kind = 0; kind < 7; kind++) {
            x.person(kind, 0);
        }
        x.set(0, 2);
        dueGives(x, 0, 0, 33);
        dueGives(x, 33, 0, 33);
        WinkPurses y = new WinkPurses();
        for (int kind = 0; kind < 7; kind++) {
            y.person(kind, 0);
        }
        y.set(0, 2);
        dueGives(y, 66, 0, 34);
    }

    private static void dueGives(WinkPurses x, int from, int worn, int n) {
        for (int price = from; price < from + n; price++) {
            int keeper = price - times(10, price);
            int miser = price + worn < 2 ? 0 : price + worn - 2;
            int[] want = {price, keeper, price + worn, miser, miser < 2 ? 2 : miser, price + price + price, times(2, keeper)};
            for (int kind = 0; kind < 7; kind++) {
                due("kind " + kind + " GIVES for " + price, x.price(kind, 0, price), want[kind]);
            }
        }
    }

    /** An ELDER, and who is under it, GIVES 1 more if WORN is 50 or more. */
    private static void givesByWorn() {
        int[] worn = {0, 1, 48, 49, 50, 51, 98, 99};
        for (int w : worn) {
            WinkPurses x = new WinkPurses();
            for (int kind = 0; kind < 7; kind++) {
                Scene.add(x, kind, 0, 0, 0, w, 0);
            }
            x.set(0, 2);
            dueGives(x, 0, w >= 50 ? 1 : 0, 5);
            dueGives(x, 97, w >= 50 ? 1 : 0, 3);
        }
    }

    /** RATE, if that is more than what a MISER GIVES. */
    private static void givesOfAJudge() {
        WinkPurses x = new WinkPurses();
        Scene.add(x, 4, 0, 0, 0, 49, 0);
        Scene.add(x, 4, 0, 0, 0, 50, 0);
        int[] rates = {2, 3, 19, 29, 30};
        for (int rate : rates) {
            x.set(0, rate);
            due("no PRICE by " + rate, x.price(0, 0, 0), rate);
            due("PRICE 1 by " + rate, x.price(1, 0, 1), rate);
            due("less than RATE " + rate, x.price(0, 0, rate + 1), rate);
            due("as much as RATE " + rate, x.price(0, 0, rate + 2), rate);
            due("more than RATE " + rate, x.price(0, 0, rate + 3), rate + 1);
            due("less than RATE, worn, " + rate, x.price(1, 0, rate), rate);
            due("as much as RATE, worn, " + rate, x.price(1, 0, rate + 1), rate);
            due("more than RATE, worn, " + rate, x.price(1, 0, rate + 2), rate + 1);
        }
    }

    /** Quotients are cut: a fifth, and half, of every PRICE. */
    private static void takesOfEveryPrice() {
        for (int from = 0; from < 100; from += 50) {
            WinkPurses x = new WinkPurses();
            for (int kind = 0; kind < 7; kind++) {
                x.person(kind, 0);
            }
            for (int price = from; price < from + 50; price++) {
                int keeper = price + times(5, price);
                int[] want = {price, keeper, price, price + 1, price + 1, times(2, price), keeper};
                for (int kind = 0; kind < 7; kind++) {
                    due("kind " + kind + " TAKES for " + price, x.price(kind, 1, price), want[kind]);
                }
            }
        }
    }

    /** 2 more, if DAY leaves 6 by 7. */
    private static void earnsByDay() {
        WinkPurses x = new WinkPurses();
        for (int kind = 0; kind < 7; kind++) {
            x.person(kind, 0);
        }
        for (int day = 0; day <= 42; day++) {
            int elder = times(7, day) * 7 + 6 == day ? 3 : 1;
            int[] want = {1, 0, elder, elder, elder, 0, 5};
            for (int kind = 0; kind < 7; kind++) {
                due("kind " + kind + " EARNS on DAY " + day, x.of(kind, 7), want[kind]);
            }
            x.go(1);
        }
    }

    /** A tenth (cut) of SLOW. */
    private static void earnsBySlow() {
        int[] slow = {0, 1, 9, 10, 11, 19, 20, 99, 100, 989, 990, 998, 999};
        int[] more = {0, 0, 0, 1, 1, 1, 2, 9, 10, 98, 99, 99, 99};
        WinkPurses x = new WinkPurses();
        for (int kind = 0; kind < 7; kind++) {
            x.person(kind, 0);
        }
        for (int i = 0; i < slow.length; i++) {
            int[] want = {1, 0, 1, 1 + more[i], 1 + more[i], 0, 5};
            for (int kind = 0; kind < 7; kind++) {
                x.change(kind, 2, slow[i]);
                due("kind " + kind + " EARNS with SLOW " + slow[i], x.of(kind, 7), want[kind]);
            }
        }
    }

    /** KEEPER, FORGER, JUDGE: yes. MISER: no. All others: if SMALL is 100 or more. */
    private static void changesBySmall() {
        WinkPurses x = new WinkPurses();
        for (int kind = 0; kind < 7; kind++) {
            x.person(kind, 0);
        }
        int[] small = {0, 1, 98, 99, 100, 101, 998, 999};
        for (int s : small) {
            int others = s >= 100 ? 1 : 0;
            int[] want = {others, 1, others, 0, 1, others, 1};
            for (int kind = 0; kind < 7; kind++) {
                x.change(kind, 1, s);
                due("kind " + kind + " CHANGES with SMALL " + s, x.of(kind, 8), want[kind]);
            }
        }
    }

    /** The PAYMENT for a DAY, if it is of 1 or more. */
    private static void aPriceOfNoneOrOne() {
        WinkPurses x = new WinkPurses();
        Scene.add(x, 4, 40, 0, 0, 0, 0);
        Scene.add(x, 3, 0, 0, 0, 0, 0);
        x.list(0, 100);
        x.list(1, 101);
        x.list(2, 199);
        x.go(1);
        due("nothing is paid for none", x.now(7), 0);
        due("no coin wears for none", x.now(6), 0);
        due("a MISER TAKES nothing for none", x.of(1, 1), 1);
        due("a JUDGE GIVES nothing for none", x.of(0, 6), 41);
        x.go(1);
        due("one is paid", x.of(0, 5), 1);
        due("a coin wears for one", x.of(1, 4), 1);
        due("a MISER TAKES one more than one", x.of(1, 1), 4);
        due("a JUDGE GIVES RATE for one", x.of(0, 6), 23);
        x.go(1);
        due("99 are paid", x.of(0, 5), 2);
        due("97 less 23 it couldn't, but one EARNS one", x.of(0, 3), 73);
        due("100 less what it couldn't, and one more", x.of(1, 1), 31);
    }

    private static void pays(String name, int rate, int price, int kind, int[] payer, int unpaid, int... after) {
        WinkPurses x = new WinkPurses();
        x.set(0, rate);
        Scene.add(x, kind, payer);
        Scene.add(x, 0, NOBODYS);
        due(name + ": couldn't pay", x.pay(0, 1, price), unpaid);
        dueOne(name + ", PAYER", x, 0, after);
    }

    /** First of its SMALL ones; what it still can't pay is its DEBT more, SMALL 0 then. */
    private static void enoughOrNot() {
        pays("one more than enough", 19, 10, 0, has(11, 0, 0, 7, 3), 0, 1, 0, 0, 7, 4);
        pays("just enough", 19, 10, 0, has(10, 0, 0, 7, 3), 0, 0, 0, 0, 7, 4);
        pays("one too few", 19, 10, 0, has(9, 0, 0, 7, 3), 1, 0, 0, 1, 7, 4);
        pays("nothing at all", 19, 10, 0, has(0, 0, 5, 7, 3), 10, 0, 0, 15, 7, 4);
        pays("the least PRICE", 19, 1, 0, has(0, 0, 0, 0, 0), 1, 0, 0, 1, 0, 1);
        pays("the greatest PRICE", 19, 99, 0, has(0, 0, 0, 0, 0), 99, 0, 0, 99, 0, 1);
        pays("the most SMALL ones", 19, 99, 0, has(999, 0, 0, 0, 0), 0, 900, 0, 0, 0, 1);
        pays("no DEBT is paid by the way", 19, 10, 0, has(20, 0, 5, 0, 0), 0, 10, 0, 5, 0, 1);
    }

    /** SLOW ones are changed, one by one, as long as there are any and it isn't enough. */
    private static void slowOnesOneByOne() {
        pays("enough: none", 19, 10, 0, has(10, 1, 0, 0, 0), 0, 0, 1, 0, 0, 1);
        pays("one too few: one", 19, 11, 0, has(10, 1, 0, 0, 0), 0, 18, 0, 0, 0, 1);
        pays("one, and not one more", 19, 11, 0, has(10, 2, 0, 0, 0), 0, 18, 1, 0, 0, 1);
        pays("one to the last SMALL one", 19, 29, 0, has(10, 2, 0, 0, 0), 0, 0, 1, 0, 0, 1);
        pays("two", 19, 30, 0, has(10, 2, 0, 0, 0), 0, 18, 0, 0, 0, 1);
        pays("one, and there is no other", 19, 30, 0, has(10, 1, 0, 0, 0), 1, 0, 0, 1, 0, 1);
        pays("by a RATE of 2", 2, 99, 0, has(0, 999, 0, 0, 0), 0, 1, 949, 0, 0, 1);
        pays("by a RATE of 30", 30, 91, 0, has(0, 4, 0, 0, 0), 0, 29, 0, 0, 0, 1);
        pays("thrice 99, 9 SLOW ones", 30, 99, 5, has(0, 9, 0, 0, 0), 27, 0, 0, 27, 0, 1);
        pays("thrice 99, 10 SLOW ones", 30, 99, 5, has(0, 10, 0, 0, 0), 0, 3, 0, 0, 0, 1);
        pays("thrice 99, 11 SLOW ones", 30, 99, 5, has(0, 11, 0, 0, 0), 0, 3, 1, 0, 0, 1);
        pays("thrice 99 by 2", 2, 99, 5, has(0, 149, 0, 0, 0), 0, 1, 0, 0, 0, 1);
        pays("thrice 99 by 2, one too few", 2, 99, 5, has(0, 148, 0, 0, 0), 1, 0, 0, 1, 0, 1);
    }

    /** MISER: less 2 (0 at least): it pays nothing, and yet it is a PAYMENT. */
    private static void whatCostsNothing() {
        pays("a MISER, 1", 19, 1, 3, has(0, 0, 0, 49, 0), 0, 0, 0, 0, 49, 1);
        pays("a MISER, 2", 19, 2, 3, has(0, 1, 0, 49, 0), 0, 0, 1, 0, 49, 1);
        pays("a MISER, 3", 19, 3, 3, has(0, 1, 0, 49, 0), 0, 18, 0, 0, 49, 1);
        pays("a worn MISER, 1", 19, 1, 3, has(0, 1, 0, 50, 0), 0, 0, 1, 0, 50, 1);
        pays("a worn MISER, 2", 19, 2, 3, has(0, 1, 0, 50, 0), 0, 18, 0, 0, 50, 1);
        pays("a FORGER, 1", 19, 1, 6, has(0, 1, 0, 0, 0), 0, 0, 1, 0, 0, 1);
        pays("a FORGER, 2", 19, 2, 6, has(0, 1, 0, 0, 0), 0, 18, 0, 0, 0, 1);
        WinkPurses x = new WinkPurses();
        Scene.add(x, 3, 0, 0, 0, 0, 0);
        Scene.add(x, 3, 5, 4, 3, 2, 1);
        due("a MISER of a MISER", x.pay(0, 1, 1), 0);
        dueOne("a MISER of a MISER, PAYEE", x, 1, has(7, 4, 3, 3, 1));
    }

    /** DEBT more (9999 at most); PAID is 1 more (9999 at most). */
    private static void debtAndPaidAtMost() {
        pays("DEBT 9997 and 1", 19, 1, 0, has(0, 0, 9997, 0, 9997), 1, 0, 0, 9998, 0, 9998);
        pays("DEBT 9998 and 1", 19, 1, 0, has(0, 0, 9998, 0, 9998), 1, 0, 0, 9999, 0, 9999);
        pays("DEBT 9998 and 2", 19, 2, 0, has(0, 0, 9998, 0, 9999), 2, 0, 0, 9999, 0, 9999);
        pays("DEBT 9999 and 1", 19, 1, 0, has(0, 0, 9999, 0, 9999), 1, 0, 0, 9999, 0, 9999);
        pays("DEBT 9900 and 99", 19, 99, 0, has(0, 0, 9900, 0, 0), 99, 0, 0, 9999, 0, 1);
        pays("DEBT 9901 and 99", 19, 99, 0, has(0, 0, 9901, 0, 0), 99, 0, 0, 9999, 0, 1);
        pays("DEBT 9999 and none", 19, 99, 0, has(99, 0, 9999, 0, 0), 0, 0, 0, 9999, 0, 1);
        pays("DEBT 9999 and 297", 19, 99, 5, has(0, 0, 9999, 0, 0), 297, 0, 0, 9999, 0, 1);
    }

    private static void payeeOf(String name, int price, int has, int kind, int[] payee, int... after) {
        WinkPurses x = new WinkPurses();
        x.person(0, has);
        Scene.add(x, kind, payee);
        x.pay(0, 1, price);
        dueOne(name + ", PAYEE", x, 1, after);
    }

    /** WORN of PAYEE 1 more (99 at most). */
    private static void wornAtMost() {
        payeeOf("WORN 0", 1, 99, 0, has(0, 0, 0, 0, 0), 1, 0, 0, 1, 0);
        payeeOf("WORN 49", 1, 99, 0, has(0, 0, 0, 49, 0), 1, 0, 0, 50, 0);
        payeeOf("WORN 97", 1, 99, 0, has(0, 0, 0, 97, 0), 1, 0, 0, 98, 0);
        payeeOf("WORN 98", 1, 99, 0, has(0, 0, 0, 98, 0), 1, 0, 0, 99, 0);
        payeeOf("WORN 99", 1, 99, 0, has(0, 0, 0, 99, 0), 1, 0, 0, 99, 0);
        payeeOf("WORN, though nothing came", 1, 0, 0, has(0, 0, 0, 3, 0), 0, 0, 0, 4, 0);
        payeeOf("what PAYEE owes and paid stays", 9, 99, 0, has(1, 2, 3, 4, 5), 10, 2, 3, 5, 5);
    }

    /** PAYEE has SMALL more by what it TAKES (999 at most). */
    private static void payeeAtMost() {
        payeeOf("899 and 99", 99, 99, 0, has(899, 0, 0, 0, 0), 998, 0, 0, 1, 0);
        payeeOf("900 and 99", 99, 99, 0, has(900, 0, 0, 0, 0), 999, 0, 0, 1, 0);
        payeeOf("901 and 99", 99, 99, 0, has(901, 0, 0, 0, 0), 999, 0, 0, 1, 0);
        payeeOf("998 and 1", 1, 99, 0, has(998, 0, 0, 0, 0), 999, 0, 0, 1, 0);
        payeeOf("999 and 1", 1, 99, 0, has(999, 5, 0, 0, 0), 999, 5, 0, 1, 0);
        payeeOf("a KEEPER: 881 and 118", 99, 99, 1, has(881, 0, 0, 0, 0), 999, 0, 0, 1, 0);
        payeeOf("a KEEPER: 882 and 118", 99, 99, 1, has(882, 0, 0, 0, 0), 999, 0, 0, 1, 0);
        payeeOf("a MISER: 899 and 100", 99, 99, 3, has(899, 0, 0, 0, 0), 999, 0, 0, 1, 0);
    }

    /** .. but less by what PAYER couldn't pay (0 at least). */
    private static void payeeLess() {
        payeeOf("all of it is missing", 50, 0, 0, has(7, 0, 0, 0, 0), 7, 0, 0, 1, 0);
        payeeOf("all but one is missing", 50, 1, 0, has(7, 0, 0, 0, 0), 8, 0, 0, 1, 0);
        payeeOf("one is missing", 50, 49, 0, has(7, 0, 0, 0, 0), 56, 0, 0, 1, 0);
        payeeOf("none is missing", 50, 50, 0, has(7, 0, 0, 0, 0), 57, 0, 0, 1, 0);
        payeeOf("a KEEPER gets a fifth all the same", 50, 0, 1, has(7, 0, 0, 0, 0), 17, 0, 0, 1, 0);
        payeeOf("a MISER gets one all the same", 50, 0, 3, has(0, 0, 0, 0, 0), 1, 0, 0, 1, 0);
        payeeOf("a CURATE: 25 less 50", 50, 0, 5, has(7, 0, 0, 0, 0), 7, 0, 0, 1, 0);
        payeeOf("a CURATE: 25 less 26", 50, 24, 5, has(7, 0, 0, 0, 0), 7, 0, 0, 1, 0);
        payeeOf("a CURATE: 25 less 25", 50, 25, 5, has(7, 0, 0, 0, 0), 7, 0, 0, 1, 0);
        payeeOf("a CURATE: 25 less 24", 50, 26, 5, has(7, 0, 0, 0, 0), 8, 0, 0, 1, 0);
        payeeOf("a CURATE: 0 less 1", 1, 0, 5, has(0, 0, 0, 0, 0), 0, 0, 0, 1, 0);
        payeeOf("988 and 60 less 50", 50, 0, 1, has(988, 0, 0, 0, 0), 998, 0, 0, 1, 0);
        payeeOf("989 and 60 less 50", 50, 0, 1, has(989, 0, 0, 0, 0), 999, 0, 0, 1, 0);
        payeeOf("990 and 60 less 50", 50, 0, 1, has(990, 0, 0, 0, 0), 999, 0, 0, 1, 0);
    }

    private static void dayOf(String name, int rate, int kind, int[] before, int... after) {
        WinkPurses x = new WinkPurses();
        x.set(0, rate);
        Scene.add(x, kind, before);
        x.go(1);
        dueOne(name, x, 0, after);
    }

    /** SMALL is what one EARNS more (999 at most). */
    private static void earnsAtMost() {
        dayOf("a MISER with 997", 19, 3, has(997, 0, 0, 0, 0), 998, 0, 0, 0, 0);
        dayOf("a MISER with 998", 19, 3, has(998, 0, 0, 0, 0), 999, 0, 0, 0, 0);
        dayOf("a MISER with 999", 19, 3, has(999, 0, 0, 0, 0), 999, 0, 0, 0, 0);
        dayOf("a MISER earns 100, with 898", 19, 3, has(898, 999, 0, 0, 0), 998, 999, 0, 0, 0);
        dayOf("a MISER earns 100, with 899", 19, 3, has(899, 999, 0, 0, 0), 999, 999, 0, 0, 0);
        dayOf("a MISER earns 100, with 900", 19, 3, has(900, 999, 0, 0, 0), 999, 999, 0, 0, 0);
        dayOf("a FORGER with 993", 19, 6, has(993, 999, 0, 0, 0), 998, 999, 0, 0, 0);
        dayOf("a FORGER with 994", 19, 6, has(994, 999, 0, 0, 0), 999, 999, 0, 0, 0);
        dayOf("a FORGER with 995", 19, 6, has(995, 999, 0, 0, 0), 999, 999, 0, 0, 0);
        dayOf("a FORGER with 999", 19, 6, has(999, 999, 0, 0, 0), 999, 999, 0, 0, 0);
        dayOf("cut ahead of what it repays", 19, 3, has(999, 999, 1, 0, 0), 998, 999, 0, 0, 0);
        dayOf("PAID stays", 19, 0, has(5, 0, 3, 8, 9), 3, 0, 0, 8, 9);
    }

    /** FALSE is 5 more by that, 9999 at most. */
    private static void falseAtMost() {
        int[] before = {0, 9993, 9994, 9995, 9998, 9999};
        int[] one = {5, 9998, 9999, 9999, 9999, 9999};
        int[] two = {10, 9999, 9999, 9999, 9999, 9999};
        for (int i = 0; i < before.length; i++) {
            WinkPurses x = new WinkPurses();
            x.person(6, 999);
            x.set(1, before[i]);
            x.go(1);
            due("FALSE " + before[i] + " by one FORGER", x.now(3), one[i]);
            WinkPurses y = new WinkPurses();
            y.person(6, 0);
            y.person(1, 0);
            y.person(6, 0);
            y.set(1, before[i]);
            y.go(1);
            due("FALSE " + before[i] + " by two FORGERS", y.now(3), two[i]);
        }
        WinkPurses z = new WinkPurses();
        Scene.add(z, 6, 999, 999, 0, 0, 0);
        z.go(1);
        due("FALSE by one who has all it can", z.now(3), 5);
    }

    /** If it has a DEBT, it pays of that as many SMALL ones as it can. */
    private static void repaysWhatItCan() {
        dayOf("one more than it owes", 19, 0, has(5, 0, 5, 0, 0), 1, 0, 0, 0, 0);
        dayOf("as many as it owes", 19, 0, has(4, 0, 5, 0, 0), 0, 0, 0, 0, 0);
        dayOf("one too few", 19, 0, has(3, 0, 5, 0, 0), 0, 0, 1, 0, 0);
        dayOf("the one it EARNS", 19, 0, has(0, 0, 1, 0, 0), 0, 0, 0, 0, 0);
        dayOf("nothing to repay with", 19, 1, has(0, 7, 1, 9, 0), 0, 7, 1, 9, 0);
        dayOf("no DEBT", 19, 1, has(1, 0, 0, 0, 0), 1, 0, 0, 0, 0);
        dayOf("all of 999", 19, 3, has(999, 0, 999, 0, 0), 0, 0, 0, 0, 0);
        dayOf("1000 of 999", 19, 3, has(999, 0, 1000, 0, 0), 0, 0, 1, 0, 0);
        dayOf("998 of 999", 19, 3, has(999, 0, 998, 0, 0), 1, 0, 0, 0, 0);
        dayOf("the most that one owes", 19, 3, has(999, 0, 9999, 0, 0), 0, 0, 9000, 0, 0);
    }

    /** RATE SMALL ones into a SLOW one, as often as it can. */
    private static void bankByRate() {
        int[] rates = {2, 19, 30};
        for (int rate : rates) {
            String name = "a KEEPER by " + rate + " with ";
            dayOf(name + "none", rate, 1, has(0, 0, 0, 5, 0), 0, 0, 0, 5, 0);
            dayOf(name + "one too few", rate, 1, has(rate - 1, 0, 0, 5, 0), rate - 1, 0, 0, 5, 0);
            dayOf(name + "RATE", rate, 1, has(rate, 0, 0, 5, 0), 0, 1, 0, 3, 0);
            dayOf(name + "one more", rate, 1, has(rate + 1, 0, 0, 5, 0), 1, 1, 0, 3, 0);
            dayOf(name + "one too few for two", rate, 1, has(2 * rate - 1, 3, 0, 5, 0), rate - 1, 4, 0, 3, 0);
            dayOf(name + "twice RATE", rate, 1, has(2 * rate, 3, 0, 5, 0), 0, 5, 0, 3, 0);
        }
        dayOf("999 by 2", 2, 1, has(999, 0, 0, 0, 0), 1, 499, 0, 0, 0);
        dayOf("999 by 19", 19, 1, has(999, 0, 0, 0, 0), 11, 52, 0, 0, 0);
        dayOf("999 by 30", 30, 1, has(999, 0, 0, 0, 0), 9, 33, 0, 0, 0);
        dayOf("a JUDGE with 17", 19, 4, has(17, 0, 0, 0, 0), 18, 0, 0, 0, 0);
        dayOf("a JUDGE with 18", 19, 4, has(18, 0, 0, 0, 0), 0, 1, 0, 0, 0);
        dayOf("a FORGER with 13", 19, 6, has(13, 0, 0, 0, 0), 18, 0, 0, 0, 0);
        dayOf("a FORGER with 14", 19, 6, has(14, 0, 0, 0, 0), 0, 1, 0, 0, 0);
    }

    /** All others: if SMALL is 100 or more, by what they have then. */
    private static void bankOfOthers() {
        dayOf("a PERSON with 98", 19, 0, has(98, 0, 0, 5, 0), 99, 0, 0, 5, 0);
        dayOf("a PERSON with 99", 19, 0, has(99, 0, 0, 5, 0), 5, 5, 0, 3, 0);
        dayOf("a PERSON with 99 who owes 1", 19, 0, has(99, 0, 1, 5, 0), 99, 0, 0, 5, 0);
        dayOf("an ELDER with 98", 19, 2, has(98, 0, 0, 5, 0), 99, 0, 0, 5, 0);
        dayOf("an ELDER with 99", 19, 2, has(99, 0, 0, 5, 0), 5, 5, 0, 3, 0);
        dayOf("a CURATE with 99", 19, 5, has(99, 0, 0, 5, 0), 99, 0, 0, 5, 0);
        dayOf("a CURATE with 100", 19, 5, has(100, 0, 0, 5, 0), 5, 5, 0, 3, 0);
        dayOf("a CURATE with 100 by 30", 30, 5, has(100, 0, 0, 5, 0), 10, 3, 0, 3, 0);
        dayOf("a CURATE with 100 by 2", 2, 5, has(100, 0, 0, 5, 0), 0, 50, 0, 3, 0);
        dayOf("a MISER with 999", 19, 3, has(999, 0, 0, 5, 0), 999, 0, 0, 5, 0);
        WinkPurses x = new WinkPurses();
        x.go(6);
        x.person(2, 97);
        x.person(2, 96);
        x.go(1);
        due("an ELDER with 97 on DAY 6", x.of(0, 2), 5);
        due("an ELDER with 96 on DAY 6", x.of(1, 2), 0);
    }

    /** SLOW 999 at most: no more then. */
    private static void bankWhenFull() {
        dayOf("997 and two", 19, 1, has(38, 997, 0, 5, 0), 0, 999, 0, 3, 0);
        dayOf("997 and three", 19, 1, has(57, 997, 0, 5, 0), 19, 999, 0, 3, 0);
        dayOf("998 and one", 19, 1, has(19, 998, 0, 5, 0), 0, 999, 0, 3, 0);
        dayOf("998 and two", 19, 1, has(38, 998, 0, 5, 0), 19, 999, 0, 3, 0);
        dayOf("999 and one", 19, 1, has(19, 999, 0, 5, 0), 19, 999, 0, 5, 0);
        dayOf("999 and all", 2, 1, has(999, 999, 0, 5, 0), 999, 999, 0, 5, 0);
        dayOf("500 and 499", 2, 1, has(999, 500, 0, 5, 0), 1, 999, 0, 3, 0);
        dayOf("501 and 499", 2, 1, has(999, 501, 0, 5, 0), 3, 999, 0, 3, 0);
    }

    /** WORN is 2 less (0 at least) if it did so once or more. */
    private static void bankWears() {
        int[] before = {0, 1, 2, 3, 50, 98, 99};
        int[] after = {0, 0, 0, 1, 48, 96, 97};
        for (int i = 0; i < before.length; i++) {
            dayOf("once, WORN " + before[i], 19, 1, has(19, 0, 0, before[i], 0), 0, 1, 0, after[i], 0);
            dayOf("often, WORN " + before[i], 19, 1, has(190, 0, 0, before[i], 0), 0, 10, 0, after[i], 0);
            dayOf("never, WORN " + before[i], 19, 1, has(18, 0, 0, before[i], 0), 18, 0, 0, before[i], 0);
        }
    }

    /** PEOPLE by numbers: each of eight EARNS, repays and goes to the bank. */
    private static void allOfEight() {
        WinkPurses x = new WinkPurses();
        for (int p = 0; p < 8; p++) {
            Scene.add(x, 6, 20 + p, p, 1, 3 + p, p);
        }
        x.go(1);
        for (int p = 0; p < 8; p++) {
            dueOne(p + " of eight", x, p, has(5 + p, p + 1, 0, 1 + p, p));
        }
        due("FALSE by eight", x.now(3), 40);
    }

    /** One PAYMENT for DAY modulo 6. */
    private static void placesOfTheList() {
        WinkPurses x = new WinkPurses();
        for (int p = 0; p < 8; p++) {
            x.person(1, 10);
        }
        for (int i = 0; i < 6; i++) {
            x.list(i, 1000 * (i + 2) + 100 * i + 1);
        }
        for (int day = 0; day < 13; day++) {
            x.go(1);
            for (int p = 0; p < 8; p++) {
                int i = p - 2;
                int want = i < 0 || i > day ? 0 : times(6, day - i) + 1;
                due("PAID of " + p + " behind DAY " + day, x.of(p, 5), want);
            }
        }
    }

    /** One of whom there is none, or who is the same: nothing is paid. */
    private static void oneOfWhomThereIsNone() {
        for (int people = 0; people <= 8; people++) {
            for (int payer = 0; payer < 8; payer++) {
                WinkPurses x = new WinkPurses();
                for (int p = 0; p < people; p++) {
                    x.person(1, 10);
                }
                int[] payees = {0, people - 1, people, 7, payer};
                for (int i = 0; i < 5; i++) {
                    x.list(i, 1000 * payer + 100 * Math.min(Math.max(payees[i], 0), 7) + 1);
                }
                int paid = 0;
                for (int i = 0; i < 5; i++) {
                    int payee = Math.min(Math.max(payees[i], 0), 7);
                    x.go(1);
                    paid += payer < people && payee < people && payee != payer ? 1 : 0;
                    due(payer + " pays " + payee + " of " + people, x.now(7), paid);
                }
            }
        }
    }

    /** Each draw makes z another int, which wraps around, and gives z >>> 8, which is never below 0. */
    private static void draws() {
        int[] seeds = {1, 0, -1, Integer.MAX_VALUE, Integer.MIN_VALUE, -1000001, 123456789};
        int[] first = {6056, 675, 1479, 1487, 667, 4751, 699};
        int[] second = {3736, 4648, 5660, 5652, 4640, 6584, 5488};
        int[] then = {-1778682749, -1038148470, -297614191, 1849869457, 1109335178, 15176785, -1440237321};
        for (int i = 0; i < seeds.length; i++) {
            WinkPurses x = new WinkPurses();
            x.seed(seeds[i]);
            x.market(2);
            due("the first three draws of " + seeds[i], x.listed(0), first[i]);
            due("the next three draws of " + seeds[i], x.listed(1), second[i]);
            due("z then of " + seeds[i], x.count(6), then[i]);
        }
    }
}
