/** The boundary cases of promises 26 to 28: markets by draws. */
public final class MarketEdgesTest {
    private static final Edges EDGES = new Edges();

    public static void main(String[] args) {
        marketFromOneTo20();
        marketIsOneByOne();
        marketTellsTheDaysPlace();
        marketOfNobody();
        oddsOfWhom();
        oddsOfNone();
        oddsOfAll();
        oddsByPurse();
        oddsByKind();
        oddsInLowestTerms();
        seedTakesEveryNumber();
        EDGES.finish();
    }

    private static void due(String call, long got, long want) {
        EDGES.due(call, got, want);
    }

    /** 26: n times (1 to 20). */
    private static void marketFromOneTo20() {
        EDGES.beyond("26: n", Scene::town, 1, 20, (x, v) -> x.market(v));
        EDGES.refused("26: n -20", Scene::town, Finding.BEYOND, x -> x.market(-20));
        EDGES.allowed("26: n", Scene::town, 1, 20, (x, v) -> x.market(v));
        int[] times = {1, 2, 19, 20};
        for (int n : times) {
            WinkPurses x = Scene.town();
            int purses = x.market(n);
            due("26: DAY behind " + n, x.now(0), 5 + n);
            due("26: PURSES of all together behind " + n, x.now(1), purses);
        }
    }

    private static void marketIsOneByOne() {
        WinkPurses x = Scene.town();
        WinkPurses y = Scene.town();
        x.market(20);
        for (int i = 0; i < 20; i++) {
            y.market(1);
        }
        EDGES.dueAlike("26: twenty at once and one by one", x, y);
    }

    /** 26: THE LIST tells for this DAY a PAYMENT; the other places stay. Then a DAY, as it is told. */
    private static void marketTellsTheDaysPlace() {
        for (int day = 0; day < 7; day++) {
            WinkPurses x = Scene.fullTown();
            WinkPurses y = Scene.fullTown();
            if (day > 0) {
                x.go(day);
                y.go(day);
            }
            x.seed(1);
            y.seed(1);
            int place = (5 + day) % 6;
            y.list(place, 6056);
            due("26: market(1) on DAY " + (5 + day), x.market(1), y.go(1));
            y.seed(662824084);
            EDGES.dueAlike("26: market(1) on DAY " + (5 + day), x, y);
        }
    }

    private static void marketOfNobody() {
        WinkPurses x = new WinkPurses();
        due("26: PURSES of nobody", x.market(1), 0);
        due("26: THE LIST all the same", x.listed(0), 6056);
        due("26: PURSES of nobody", x.market(20), 0);
        due("26: DAY", x.now(0), 21);
    }

    /** 27: whom, n (0 to 9), what 0 and 1. */
    private static void oddsOfWhom() {
        EDGES.beyond("27: one of seven", Scene::town, 0, 6, (x, v) -> x.odds(v, 1, 0));
        EDGES.beyond("27: one of eight", Scene::fullTown, 0, 7, (x, v) -> x.odds(v, 1, 1));
        EDGES.refused("27: one of none", Scene::empty, Finding.BEYOND, x -> x.odds(0, 0, 0));
        EDGES.beyond("27: n, above", Scene::town, 0, 9, (x, v) -> x.odds(3, v, 0));
        EDGES.beyond("27: n, below", Scene::town, 0, 9, (x, v) -> x.odds(3, v, 1));
        EDGES.beyond("27: what", Scene::town, 0, 1, (x, v) -> x.odds(3, 1, v));
        EDGES.beyond("27: what of the first", Scene::town, 0, 1, (x, v) -> x.odds(0, 1, v));
        WinkPurses x = new WinkPurses();
        for (int p = 0; p < 8; p++) {
            x.person(0, 10 * p);
        }
        long[] above = {1, 11, 21, 31, 41, 51, 61, 71};
        for (int p = 0; p < 8; p++) {
            due("27: one of eight, above", x.odds(p, 1, 0), above[p]);
            due("27: one of eight, below", x.odds(p, 1, 1), 100);
        }
    }

    private static WinkPurses one(int kind, int small, int slow) {
        WinkPurses x = new WinkPurses();
        Scene.add(x, kind, small, slow);
        return x;
    }

    private static void dueOdds(String name, int kind, int small, int slow, int n, long above, long below) {
        EDGES.asked("27: " + name + ", above", () -> one(kind, small, slow), above, x -> x.odds(0, n, 0));
        EDGES.asked("27: " + name + ", below", () -> one(kind, small, slow), below, x -> x.odds(0, n, 1));
    }

    /** 27: no PRICE at all is always borne; a JUDGE with less than RATE bears none. */
    private static void oddsOfNone() {
        dueOdds("no PRICE", 0, 0, 0, 0, 1, 1);
        dueOdds("no PRICE, a JUDGE", 4, 0, 0, 0, 1, 1);
        dueOdds("one, a JUDGE with nothing", 4, 0, 0, 1, 0, 1);
        dueOdds("nine, a JUDGE with one less than RATE", 4, 18, 0, 9, 0, 1);
        dueOdds("one, a JUDGE with RATE", 4, 19, 0, 1, 11, 50);
        dueOdds("one, a JUDGE with a SLOW one", 4, 0, 1, 1, 11, 50);
        int[] rates = {2, 7, 30};
        for (int rate : rates) {
            WinkPurses x = one(4, rate - 1, 0);
            x.set(0, rate);
            due("27: a JUDGE with one less than " + rate, x.odds(0, 1, 0), 0);
            due("27: a JUDGE with one less than " + rate + ", below", x.odds(0, 1, 1), 1);
            x.change(0, 1, rate);
            due("27: a JUDGE with " + rate, x.odds(0, 2, 1), rate == 2 ? 400 : rate == 7 ? 100 : 10000);
            due("27: a JUDGE with " + rate + ", above", x.odds(0, 1, 0), rate == 30 ? 33 : 1);
        }
    }

    /** 27: all PRICES. */
    private static void oddsOfAll() {
        dueOdds("98", 0, 98, 0, 1, 99, 100);
        dueOdds("99", 0, 99, 0, 1, 1, 1);
        dueOdds("99, nine times", 0, 99, 0, 9, 1, 1);
        dueOdds("100", 0, 100, 0, 1, 1, 1);
        dueOdds("all that one can have", 5, 999, 999, 9, 1, 1);
        dueOdds("a CURATE with 296", 5, 296, 0, 1, 99, 100);
        dueOdds("a CURATE with 297", 5, 297, 0, 1, 1, 1);
    }

    /** 27: out of its PURSE now, SLOW ones too. */
    private static void oddsByPurse() {
        dueOdds("nothing", 0, 0, 0, 1, 1, 100);
        dueOdds("1", 0, 1, 0, 1, 1, 50);
        dueOdds("18", 0, 18, 0, 1, 19, 100);
        dueOdds("a SLOW one", 0, 0, 1, 1, 1, 5);
        dueOdds("a SLOW one and 1", 0, 1, 1, 1, 21, 100);
        dueOdds("five SLOW ones and 3", 0, 3, 5, 1, 99, 100);
        dueOdds("five SLOW ones and 4", 0, 4, 5, 1, 1, 1);
        WinkPurses x = one(0, 10, 3);
        x.change(0, 3, 9999);
        due("27: a DEBT is no part of it", x.odds(0, 1, 0), 17);
        x.set(0, 2);
        due("27: by RATE", x.odds(0, 1, 0), 17);
        due("27: by RATE, below", x.odds(0, 1, 1), 100);
    }

    /** 27: by what one GIVES. */
    private static void oddsByKind() {
        dueOdds("a KEEPER with 9", 1, 9, 0, 1, 11, 100);
        dueOdds("an ELDER with 9", 2, 9, 0, 1, 1, 10);
        dueOdds("a MISER with 9", 3, 9, 0, 1, 3, 25);
        dueOdds("a MISER with 0", 3, 0, 0, 1, 3, 100);
        dueOdds("a CURATE with 9", 5, 9, 0, 1, 1, 25);
        dueOdds("a CURATE with 8", 5, 8, 0, 1, 3, 100);
        dueOdds("a FORGER with 9", 6, 9, 0, 1, 11, 50);
        WinkPurses x = one(2, 9, 0);
        x.change(0, 4, 49);
        due("27: an ELDER with WORN 49", x.odds(0, 1, 1), 10);
        x.change(0, 4, 50);
        due("27: an ELDER with WORN 50", x.odds(0, 1, 0), 9);
        due("27: an ELDER with WORN 50, below", x.odds(0, 1, 1), 100);
        x.change(0, 1, 0);
        due("27: an ELDER with WORN 50 and nothing", x.odds(0, 1, 0), 0);
        due("27: an ELDER with WORN 50 and nothing, below", x.odds(0, 9, 1), 1);
    }

    /** 27: in lowest terms, in longs. */
    private static void oddsInLowestTerms() {
        long above = 1;
        long below = 1;
        long full = 1;
        for (int n = 0; n <= 9; n++) {
            dueOdds("99 of 100, " + n + " times", 0, 98, 0, n, above, full);
            dueOdds("1 of 100, " + n + " times", 0, 0, 0, n, 1, full);
            dueOdds("a half, " + n + " times", 0, 49, 0, n, 1, below);
            above *= 99;
            full *= 100;
            below *= 2;
        }
        dueOdds("98 of 100, nine times", 0, 97, 0, 9, 1628413597910449L, 1953125000000000L);
        for (int share = 1; share <= 100; share++) {
            int common = 100;
            while (share % common != 0 || 100 % common != 0) {
                common--;
            }
            WinkPurses x = one(0, share - 1, 0);
            due("27: " + share + " of 100", x.odds(0, 1, 0), share / common);
            due("27: " + share + " of 100, below", x.odds(0, 1, 1), 100 / common);
            due("27: " + share + " of 100, twice", x.odds(0, 2, 0), (long) share / common * (share / common));
            due("27: " + share + " of 100, twice, below", x.odds(0, 2, 1), 100L / common * (100 / common));
        }
    }

    /** 28: every number is a seed, and no answer of it a finding. */
    private static void seedTakesEveryNumber() {
        int[] seeds = {0, 1, -1, Integer.MAX_VALUE, Integer.MIN_VALUE, -1000001, -1000007, 55};
        WinkPurses x = Scene.town();
        int[] status = EDGES.statusOf(x);
        int was = 55;
        for (int v : seeds) {
            due("28: seed(" + v + ")", x.seed(v), was);
            due("28: z", x.count(6), v);
            was = v;
        }
        EDGES.dueStatus("28: seeds", x, status);
        EDGES.dueAlike("28: seeds", x, Scene.town());
    }
}
