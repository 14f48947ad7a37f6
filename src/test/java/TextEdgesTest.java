/** The boundary cases of promises 29 to 31: the tape, and towns from texts. */
public final class TextEdgesTest {
    private static final Edges EDGES = new Edges();
    private static final String[] KINDS = {"person", "keeper", "elder", "miser", "judge", "curate", "forger"};
    private static final int BYTES = 120;

    public static void main(String[] args) {
        feedFromOneToFour();
        feedUntilFull();
        feedTheLowestBytes();
        wipeFromEmptyToFull();
        emptyAndFullTexts();
        manyItems();
        everyByte();
        everyTokenBehindEveryOther();
        wordsAreWhole();
        tokensAsLongAsCanBe();
        numbersOfPeople();
        numbersOfPayments();
        numbersOfRates();
        aNinth();
        endsTooEarly();
        aFaultChangesNothing();
        aTextChangesWhatItTells();
        EDGES.finish();
    }

    private static void due(String call, long got, long want) {
        EDGES.due(call, got, want);
    }

    /** A town with a TEXT of so many bytes on THE TAPE: rate, blanks and a 7. */
    private static WinkPurses tapeOf(int bytes) {
        WinkPurses x = Scene.town();
        x.wipe();
        Scene.feed(x, rateIn(bytes, "7"));
        return x;
    }

    private static String rateIn(int bytes, String end) {
        return "rate" + " ".repeat(bytes - 4 - end.length()) + end;
    }

    private static void dueText(String text, int items) {
        WinkPurses x = new WinkPurses();
        due("31: '" + text + "'", Scene.read(x, text), items);
        due("31: THE TAPE behind '" + text + "'", x.count(5), 0);
        due("31: no finding by '" + text + "'", x.status(-1), 0);
    }

    private static void dueFault(String text, int fault) {
        dueText(text, -1 - fault);
    }

    /** 29: BEYOND: n (1 to 4). */
    private static void feedFromOneToFour() {
        EDGES.beyond("29: n", Scene::town, 1, 4, (x, v) -> x.feed(97, v));
        EDGES.beyond("29: n, FULL", () -> tapeOf(BYTES), 1, 4, (x, v) -> x.feed(97, v));
        for (int i = 1; i <= 4; i++) {
            due("29: " + i + " on an empty tape", new WinkPurses().feed(97, i), i);
        }
    }

    /** 29: at most 120 bytes. FULL. */
    private static void feedUntilFull() {
        for (int had = 116; had <= BYTES; had++) {
            for (int i = 1; i <= 4; i++) {
                int n = i;
                int bytes = had;
                if (had + n > BYTES) {
                    EDGES.refused("29: " + n + " behind " + had, () -> tapeOf(bytes), Finding.FULL, x -> x.feed(97, n));
                } else {
                    WinkPurses x = tapeOf(had);
                    due("29: " + n + " behind " + had, x.feed(97, n), had + n);
                    due("29: bytes then", x.count(5), had + n);
                }
            }
        }
    }

    /** 29: the n lowest bytes, the highest of these first. */
    private static void feedTheLowestBytes() {
        int[] numbers = {0x39393937, 0x39392037, 0x39202037, 0x20202037, 0xff203037, 0x80000037, 0x39393037};
        int[] lowest = {1, 2, 3, 4, 3, 1, 2};
        for (int i = 0; i < numbers.length; i++) {
            WinkPurses x = new WinkPurses();
            Scene.feed(x, "rate");
            due("29: number " + i, x.feed(numbers[i], lowest[i]), 4 + lowest[i]);
            due("29: number " + i + " is a 7", x.text(), 1);
            due("29: RATE", x.set(0, 19), 7);
        }
        WinkPurses y = new WinkPurses();
        y.feed('p' << 24 | 'a' << 16 | 'y' << 8 | '1', 4);
        y.feed(' ' << 16 | '2' << 8 | ' ', 3);
        y.feed('3' << 8 | ' ', 2);
        y.feed('4', 1);
        due("29: 'pay1 2 3 4'", y.text(), 1);
        due("29: PAYMENT", y.listed(1), 2304);
    }

    /** 30: how many it had: none, one, 120. */
    private static void wipeFromEmptyToFull() {
        due("30: an empty tape", new WinkPurses().wipe(), 0);
        WinkPurses x = new WinkPurses();
        x.feed(97, 1);
        due("30: one", x.wipe(), 1);
        due("30: none then", x.wipe(), 0);
        WinkPurses y = tapeOf(BYTES);
        due("30: 120", y.wipe(), BYTES);
        due("30: none then", y.count(5), 0);
        due("30: there is room again", y.feed(97, 4), 4);
        WinkPurses z = Scene.town();
        due("30: the town's", z.wipe(), 18);
        Scene.feed(z, "rate 9;pay 4 3 2 1");
        EDGES.dueAlike("30: wiped and fed again", z, Scene.town());
    }

    /** 31: from no byte to 120. */
    private static void emptyAndFullTexts() {
        dueFault("", 0);
        dueFault("r", 0);
        dueText(rateIn(119, "7"), 1);
        dueText(rateIn(BYTES, "7"), 1);
        dueText(rateIn(BYTES, "30"), 1);
        dueFault(rateIn(119, "x"), 118);
        dueFault(rateIn(BYTES, "x"), 119);
        dueFault(rateIn(BYTES, "#"), 119);
        dueFault(rateIn(BYTES, "31"), 118);
        dueFault(rateIn(119, ""), 119);
        dueFault(rateIn(BYTES, ""), 120);
        dueFault(rateIn(BYTES, "7;"), 120);
        dueText(rateIn(BYTES, "7;person"), 2);
        dueFault(rateIn(BYTES, "7;persom"), 114);
    }

    /** 31: how many ITEMS; those that come last count. */
    private static void manyItems() {
        StringBuilder text = new StringBuilder("rate2");
        for (int items = 1; items <= 20; items++) {
            dueText(text.toString(), items);
            text.append(";rate").append(2 + items % 8);
        }
        WinkPurses x = new WinkPurses();
        due("31: two payments of one place", Scene.read(x, "pay 0 1 2 3;rate 3;pay 0 2 1 4;rate 2;pay 5 0 1 9"), 5);
        due("31: the latter", x.listed(0), 2104);
        due("31: the last place", x.listed(5), 109);
        due("31: the latter RATE", x.set(0, 19), 2);
    }

    /** 31: a byte that begins no TOKEN is a FAULT; blanks may stand between. */
    private static void everyByte() {
        for (int b = 0; b < 256; b++) {
            String sign = "" + (char) b;
            boolean digit = b >= '0' && b <= '9';
            int alone = b == ' ' ? -2 : -1;
            int behind = b == ' ' ? 1 : b == ';' ? -8 : digit ? -6 : -7;
            int within = b >= '2' && b <= '9' ? 1 : b == ' ' ? -7 : -6;
            int later = b == ' ' ? 1 : b == ';' ? -9 : -8;
            WinkPurses x = new WinkPurses();
            due("31: byte " + b, Scene.read(x, sign), alone);
            due("31: byte " + b + " behind 'rate 5'", Scene.read(x, "rate 5" + sign), behind);
            due("31: byte " + b + " behind 'rate '", Scene.read(x, "rate " + sign), within);
            due("31: byte " + b + " behind 'rate 5 '", Scene.read(x, "rate 5 " + sign), later);
            due("31: byte " + b + " within 'rate 5'", Scene.read(x, "rate" + sign + "5"),
                b == ' ' || b == '0' || b == '1' || b == '2' ? 1 : b >= 'a' && b <= 'z' ? -1 : -5);
        }
    }

    private static boolean isOne(String token, String... others) {
        for (String other : others) {
            if (token.equals(other)) {
                return true;
            }
        }
        return false;
    }

    /** What stands behind a beginning: whether a token may stand there (1: and the text may end then), or not (0). */
    private static int mayStand(String begin, String token) {
        switch (begin) {
            case "":
            case "rate 5;":
            case "person;":
                return isOne(token, KINDS) ? 1 : isOne(token, "pay", "rate") ? 2 : 0;
            case "person":
                return isOne(token, "small", "slow", "owes", ";") ? 2 : 0;
            case "person small":
            case "person slow":
            case "person small 5 slow":
            case "person owes":
            case "pay 1 2 3":
            case "rate":
                return token.equals("4") ? 1 : 0;
            case "person small 5":
                return isOne(token, "slow", "owes", ";") ? 2 : 0;
            case "person slow 5":
            case "person small 5 slow 6":
                return isOne(token, "owes", ";") ? 2 : 0;
            case "pay":
            case "pay 1":
            case "pay 1 2":
                return token.equals("4") ? 2 : 0;
            default:
                return token.equals(";") ? 2 : 0;
        }
    }

    /** 31: FAULT: the first TOKEN that can't stand there, or how many bytes there are if it ends too early. */
    private static void everyTokenBehindEveryOther() {
        String[] begins = {"", "person", "person small", "person small 5", "person slow", "person slow 5",
            "person small 5 slow", "person small 5 slow 6", "person owes", "person owes 5", "person small 5 owes 5",
            "pay", "pay 1", "pay 1 2", "pay 1 2 3", "pay 1 2 3 4", "rate", "rate 5", "rate 5;", "person;"};
        String[] tokens = {"person", "keeper", "elder", "miser", "judge", "curate", "forger", "small", "slow", "owes", "pay",
            "rate", ";", "4", "baby", "#", "10000"};
        for (String begin : begins) {
            for (String token : tokens) {
                String text = begin.isEmpty() ? token : begin + " " + token;
                int may = mayStand(begin, token);
                int items = begin.endsWith(";") ? 2 : 1;
                dueText(text, may == 1 ? items : -1 - (may == 2 ? text.length() : text.length() - token.length()));
            }
        }
    }

    /** 31: another WORD: one letter fewer, more or other. */
    private static void wordsAreWhole() {
        String[] words = {"person", "keeper", "elder", "miser", "judge", "curate", "forger", "rate 5", "pay 0 1 2 3"};
        for (String word : words) {
            dueText(word, 1);
            dueFault(word.substring(1), 0);
            dueFault("a" + word, 0);
            dueFault((char) (word.charAt(0) - 32) + word.substring(1), 0);
            int end = word.indexOf(' ') < 0 ? word.length() : word.indexOf(' ');
            dueFault(word.substring(0, end - 1) + word.substring(end), 0);
            dueFault(word.substring(0, end) + "s" + word.substring(end), 0);
            for (int i = 0; i < end; i++) {
                char other = (char) (word.charAt(i) == 'z' ? 'y' : word.charAt(i) + 1);
                dueFault(word.substring(0, i) + other + word.substring(i + 1), 0);
            }
        }
        String[] traits = {"small", "slow", "owes"};
        for (String trait : traits) {
            dueText("person " + trait + " 5", 1);
            dueFault("person " + trait + "s 5", 7);
            dueFault("person " + trait.substring(1) + " 5", 7);
            dueFault("person " + trait.substring(0, trait.length() - 1) + " 5", 7);
            for (int i = 0; i < trait.length(); i++) {
                char other = (char) (trait.charAt(i) + 1);
                dueFault("person " + trait.substring(0, i) + other + trait.substring(i + 1) + " 5", 7);
            }
        }
    }

    /** TOKENS, each as long as can be; blanks may, and needn't, stand between. */
    private static void tokensAsLongAsCanBe() {
        dueText("person small5slow6owes7;rate8;pay1 2 3 4", 3);
        dueText("person  small  5  slow  6  owes  7  ;  rate  8", 2);
        dueFault("personsmall 5", 0);
        dueFault("person smallslow 5", 7);
        dueFault("person small 5 slowowes 5", 15);
        dueFault("rate 1 9", 5);
        dueFault("rate 19 9", 8);
        dueFault("pay1234", 3);
        dueFault("pay 1 234", 6);
        dueFault("per son", 0);
        dueFault("rate 2 0", 7);
        WinkPurses x = new WinkPurses();
        due("31: a NUMBER as long as can be", Scene.read(x, "person small 123 slow 45 owes 6789"), 1);
        int[] want = {0, 123, 45, 6789, 0, 0};
        for (int what = 0; what < 6; what++) {
            due("31: of(0, " + what + ")", x.of(0, what), want[what]);
        }
    }

    private static void dueTrait(String text, int what, int v) {
        WinkPurses x = new WinkPurses();
        due("31: '" + text + "'", Scene.read(x, text), 1);
        due("31: by '" + text + "': of(0, " + what + ")", x.of(0, what), v);
    }

    /** 31: small and a NUMBER (0 to 999), slow (0 to 999), owes (0 to 9999). */
    private static void numbersOfPeople() {
        for (String kind : KINDS) {
            int behind = kind.length();
            dueTrait(kind, 1, 20);
            dueTrait(kind + " small 0", 1, 0);
            dueTrait(kind + " small 999", 1, 999);
            dueFault(kind + " small 1000", behind + 7);
            dueTrait(kind + " slow 0", 2, 0);
            dueTrait(kind + " slow 999", 2, 999);
            dueFault(kind + " slow 1000", behind + 6);
            dueTrait(kind + " owes 0", 3, 0);
            dueTrait(kind + " owes 1000", 3, 1000);
            dueTrait(kind + " owes 9999", 3, 9999);
            dueFault(kind + " owes 10000", behind + 6);
            dueTrait(kind + " slow 5", 1, 20);
            dueTrait(kind + " owes 5", 2, 0);
        }
        dueFault("person small 9999", 13);
        dueFault("person small 99999999999999999999", 13);
        dueFault("person owes 2147483648", 12);
        dueFault("person owes 4294967296", 12);
        dueFault("person owes 4294967300", 12);
        dueFault("person owes 18446744073709551616", 12);
        dueFault("person small -1", 13);
    }

    private static void duePayment(String text, int place, int payment) {
        WinkPurses x = new WinkPurses();
        due("31: '" + text + "'", Scene.read(x, text), 1);
        for (int i = 0; i < 6; i++) {
            due("31: by '" + text + "': listed(" + i + ")", x.listed(i), i == place ? payment : 100);
        }
    }

    /** 31: a place of THE LIST, 0 to 5, PAYER, 0 to 7, PAYEE, 0 to 7, PRICE, 0 to 99. */
    private static void numbersOfPayments() {
        duePayment("pay 0 0 0 0", 0, 0);
        duePayment("pay 5 7 7 99", 5, 7799);
        duePayment("pay 0 7 0 0", 0, 7000);
        duePayment("pay 0 0 7 0", 0, 700);
        duePayment("pay 5 0 0 99", 5, 99);
        duePayment("pay 4 6 1 98", 4, 6198);
        dueFault("pay 6 0 1 2", 4);
        dueFault("pay 1 8 1 2", 6);
        dueFault("pay 1 0 8 2", 8);
        dueFault("pay 1 0 1 100", 10);
        dueFault("pay 10 0 1 2", 4);
        dueFault("pay 1 10 1 2", 6);
        dueFault("pay 1 0 10 2", 8);
        dueFault("pay 1 0 1 9999", 10);
        dueFault("pay 6 8 8 100", 4);
        dueFault("pay 1 8 8 100", 6);
        dueFault("pay 1 0 8 100", 8);
    }

    /** 31: rate, a NUMBER (2 to 30). */
    private static void numbersOfRates() {
        for (int rate = 0; rate <= 40; rate++) {
            WinkPurses x = new WinkPurses();
            boolean right = rate >= 2 && rate <= 30;
            due("31: 'rate " + rate + "'", Scene.read(x, "rate " + rate), right ? 1 : -6);
            due("31: RATE", x.set(0, 19), right ? rate : 19);
        }
        dueFault("rate 9999", 5);
        dueFault("rate 10000", 5);
    }

    private static void dueWith(int people, String text, int answer) {
        WinkPurses x = new WinkPurses();
        for (int p = 0; p < people; p++) {
            x.person(0, p);
        }
        due("31: '" + text + "' with " + people, Scene.read(x, text), answer);
        int then = people;
        for (int i = 0; answer > 0 && i < text.length(); i++) {
            then += text.charAt(i) == 'j' ? 1 : 0;
        }
        due("31: PEOPLE by '" + text + "' with " + people, x.count(1), then);
    }

    /** 31: the WORD of a 9th one: its own place. */
    private static void aNinth() {
        dueWith(7, "judge", 1);
        dueWith(7, "judge;judge", -7);
        dueWith(7, "judge ; judge small 5", -9);
        dueWith(7, "judge;judgeling", -7);
        dueWith(7, "judge small 1000;judge", -13);
        dueWith(7, "judge;rate 5", 2);
        dueWith(6, "judge;judge", 2);
        dueWith(6, "judge;judge;judge", -13);
        dueWith(8, "judge", -1);
        dueWith(8, "  judge", -3);
        dueWith(8, "rate 5;judge", -8);
        dueWith(8, "rate 5;pay 0 1 2 3", 2);
        dueWith(8, "judge small 1000", -1);
        dueWith(0, "judge;judge;judge;judge;judge;judge;judge;judge", 8);
        dueWith(0, "judge;judge;judge;judge;judge;judge;judge;judge;judge", -49);
        dueWith(0, "judge;judge;judge;judge;judge;judge;judge;judge;", -49);
    }

    /** 31: how many bytes there are if it ends too early, blanks at its end too. */
    private static void endsTooEarly() {
        String[] texts = {"", "rate", "rate 5;", "pay", "pay 1", "pay 1 2", "pay 1 2 3", "person small", "person slow",
            "person owes", "person;", "person small 5;", "pay 1 2 3 4;"};
        for (String text : texts) {
            dueFault(text, text.length());
            dueFault(text + " ", text.length() + 1);
            dueFault(text + "   ", text.length() + 3);
        }
    }

    /** 31: with a FAULT nothing changes but that THE TAPE is empty; no finding. */
    private static void aFaultChangesNothing() {
        String[] ends = {";", ";baby", " 5", ";rate 31", ";pay 4 3 2 100", ";judge;judge", ";person small 5 slow 6 owes 7;x", "#"};
        int[] faults = {19, 19, 19, 24, 29, 25, 48, 18};
        for (int i = 0; i < ends.length; i++) {
            WinkPurses x = Scene.town();
            int[] status = EDGES.statusOf(x);
            Scene.feed(x, ends[i]);
            due("31: a FAULT by '" + ends[i] + "'", x.text(), -1 - faults[i]);
            EDGES.dueStatus("31: a FAULT by '" + ends[i] + "'", x, status);
            WinkPurses y = Scene.town();
            y.wipe();
            EDGES.dueAlike("31: a FAULT by '" + ends[i] + "'", x, y);
        }
    }

    /** 31: all that it tells is so, and no more; THE TAPE is empty then. */
    private static void aTextChangesWhatItTells() {
        WinkPurses x = Scene.town();
        Scene.feed(x, ";miser small 5 slow 6 owes 7");
        int[] status = EDGES.statusOf(x);
        due("31: three ITEMS", x.text(), 3);
        EDGES.dueStatus("31: three ITEMS", x, status);
        WinkPurses y = Scene.town();
        y.wipe();
        y.set(0, 9);
        y.list(4, 3201);
        Scene.add(y, 3, 5, 6, 7, 0, 0);
        EDGES.dueAlike("31: three ITEMS", x, y);
    }
}
