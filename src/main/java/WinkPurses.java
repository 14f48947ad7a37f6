/** A town where winks are legal tender: people, payments by a list, days and a bank. */
public final class WinkPurses {
    private static final int LOW = -1000001;
    private static final int FINE = -1;
    private static final int BEYOND = 0;
    private static final int FULL = 1;
    private static final int KIND = 2;
    private static final int NONE = 3;
    private static final int STATE = 4;
    private static final int MISSING = 5;
    private static final int SIZE = 6;
    private static final int FINDINGS = 7;

    private static final int PERSON = 0;
    private static final int KEEPER = 1;
    private static final int ELDER = 2;
    private static final int MISER = 3;
    private static final int JUDGE = 4;
    private static final int CURATE = 5;
    private static final int FORGER = 6;
    private static final int KINDS = 7;
    private static final int[] KIND_ABOVE = {-1, PERSON, PERSON, ELDER, MISER, PERSON, KEEPER};

    private static final int OF_KIND = 0;
    private static final int OF_SMALL = 1;
    private static final int OF_SLOW = 2;
    private static final int OF_DEBT = 3;
    private static final int OF_WORN = 4;
    private static final int OF_PAID = 5;
    private static final int OF_PURSE = 6;
    private static final int OF_EARNS = 7;
    private static final int OF_CHANGES = 8;

    private static final int MOST_SMALL = 999;
    private static final int MOST_SLOW = 999;
    private static final int MOST_DEBT = 9999;
    private static final int MOST_WORN = 99;
    private static final int MOST_PAID = 9999;
    private static final int MOST_FALSE = 9999;
    private static final int LEAST_RATE = 2;
    private static final int MOST_RATE = 30;
    private static final int FIRST_RATE = 19;
    private static final int FIRST_SMALL = 20;
    private static final int FIRST_PAYMENT = 100;
    private static final int WELL_WORN = 50;
    private static final int FORGED_A_DAY = 5;
    private static final int ENOUGH_FOR_BANK = 100;
    private static final int PRICES = 100;
    private static final int MOST_PEOPLE = 8;
    private static final int PLACES = 6;
    private static final int SPOTS = 10;
    private static final int SHEETS = 4;
    private static final int MOST_NUMBERS = 40;
    private static final int MOST_BYTES = 120;
    private static final int MOST_SOUGHT = 9999;
    private static final int LAST_DAY = 99999;
    private static final int FORESEEN_DAYS = 200;

    private static final int ONE_HAS = 0;
    private static final int ONE_OWES = 1;
    private static final int NOBODY_OWES = 2;
    private static final int FALSE_ARE = 3;

    private final Town town = new Town();
    private final Town trial = new Town();
    private final Town kept = new Town();
    private boolean isKept = false;
    private final Tape tape = new Tape();
    private final Sheet[] sheets = new Sheet[SHEETS];
    private final int[] findings = new int[FINDINGS];

    public WinkPurses() {
        for (int s = 0; s < SHEETS; s++) {
            sheets[s] = new Sheet();
        }
    }

    // ---- town, people

    public int set(int what, int v) {
        if (what == 0 && isRate(v)) {
            int was = town.rate;
            town.rate = v;
            return was;
        }
        if (what == 1 && within(v, 0, MOST_FALSE)) {
            int was = town.falseOnes;
            town.falseOnes = v;
            return was;
        }
        return finding(BEYOND);
    }

    public int list(int i, int payment) {
        if (!isPlace(i) || !isPayment(payment)) {
            return finding(BEYOND);
        }
        int was = town.payments[i];
        town.payments[i] = payment;
        return was;
    }

    public int listed(int i) {
        return isPlace(i) ? town.payments[i] : finding(BEYOND);
    }

    public int person(int kind, int small) {
        if (!isKind(kind) || !within(small, 0, MOST_SMALL)) {
            return finding(BEYOND);
        }
        if (town.isFull()) {
            return finding(FULL);
        }
        return town.addPerson(kind, small);
    }

    public int of(int person, int what) {
        if (!town.hasPerson(person) || !within(what, OF_KIND, OF_CHANGES)) {
            return finding(BEYOND);
        }
        return town.told(person, what);
    }

    public int change(int person, int what, int v) {
        if (!town.hasPerson(person) || !within(what, OF_KIND, OF_PAID) || !within(v, 0, mostOf(what))) {
            return finding(BEYOND);
        }
        Person one = town.persons[person];
        int was = one.trait(what);
        one.setTrait(what, v);
        return was;
    }

    public int price(int person, int way, int price) {
        if (!town.hasPerson(person) || !within(way, 0, 1) || !isPrice(price)) {
            return finding(BEYOND);
        }
        Person one = town.persons[person];
        return way == 0 ? one.givesFor(price, town.rate) : one.takesFor(price);
    }

    public int pay(int payer, int payee, int price) {
        if (!town.canPay(payer, payee) || !within(price, 1, PRICES - 1)) {
            return finding(BEYOND);
        }
        return town.makePayment(payer, payee, price);
    }

    // ---- days

    public int go(int n) {
        if (!within(n, 1, 60)) {
            return finding(BEYOND);
        }
        if (town.day + n > LAST_DAY) {
            return finding(STATE);
        }
        town.passDays(n);
        return town.purses();
    }

    public int now(int what) {
        switch (what) {
            case 0: return town.day;
            case 1: return town.purses();
            case 2: return town.sumOf(OF_DEBT);
            case 3: return town.falseOnes;
            case 4: return town.debtors();
            case 5: return town.richest();
            case 6: return town.sumOf(OF_WORN);
            case 7: return town.sumOf(OF_PAID);
            default: return finding(BEYOND);
        }
    }

    // ---- what will be (nothing changes)

    public int ahead(int person, int what, int n) {
        if (!town.hasPerson(person) || !within(what, OF_SMALL, OF_PURSE) || !within(n, 0, 100)) {
            return finding(BEYOND);
        }
        trial.become(town);
        trial.passDays(n);
        return trial.told(person, what);
    }

    public int rich(int person, int v) {
        if (!town.hasPerson(person) || !within(v, 0, MOST_SOUGHT)) {
            return finding(BEYOND);
        }
        return daysUntil(ONE_HAS, person, v);
    }

    public int owes(int person) {
        return town.hasPerson(person) ? daysUntil(ONE_OWES, person, 0) : finding(BEYOND);
    }

    public int even() {
        return daysUntil(NOBODY_OWES, -1, 0);
    }

    public int forged(int v) {
        return within(v, 0, MOST_FALSE) ? daysUntil(FALSE_ARE, -1, v) : finding(BEYOND);
    }

    // ---- how to pay

    public int priceFor(int i, int n) {
        if (!isPlace(i) || !within(n, 0, 60)) {
            return finding(BEYOND);
        }
        for (int price = PRICES - 1; price >= 0; price--) {
            trial.become(town);
            trial.setPrice(i, price);
            trial.passDays(n);
            if (trial.debtors() == 0) {
                return price;
            }
        }
        return finding(NONE);
    }

    public int rateFor(int n) {
        if (!within(n, 0, 60)) {
            return finding(BEYOND);
        }
        int best = LEAST_RATE;
        int most = -1;
        for (int rate = LEAST_RATE; rate <= MOST_RATE; rate++) {
            trial.become(town);
            trial.rate = rate;
            trial.passDays(n);
            if (trial.purses() > most) {
                most = trial.purses();
                best = rate;
            }
        }
        return best;
    }

    public int kindFor(int person, int n) {
        if (!town.hasPerson(person) || !within(n, 0, 60)) {
            return finding(BEYOND);
        }
        int best = PERSON;
        int most = -1;
        for (int kind = 0; kind < KINDS; kind++) {
            trial.become(town);
            trial.persons[person].kind = kind;
            trial.passDays(n);
            if (trial.purseOf(person) > most) {
                most = trial.purseOf(person);
                best = kind;
            }
        }
        return best;
    }

    // More winks can leave a debt that fewer don't (a judge's coin wears otherwise), so every number is tried.
    public int smallFor(int person, int n) {
        if (!town.hasPerson(person) || !within(n, 0, 40)) {
            return finding(BEYOND);
        }
        for (int small = 0; small <= MOST_SMALL; small++) {
            trial.become(town);
            trial.persons[person].small = small;
            trial.passDays(n);
            if (trial.persons[person].debt == 0) {
                return small;
            }
        }
        return finding(NONE);
    }

    public int strike(int n) {
        if (!within(n, 0, 20)) {
            return finding(BEYOND);
        }
        for (int size = 0; size <= town.people; size++) {
            for (int idle = 0; idle < 1 << town.people; idle++) {
                if (Integer.bitCount(idle) == size && isEvenWithout(idle, n)) {
                    return idle;
                }
            }
        }
        return finding(NONE);
    }

    public int coins(int v) {
        return within(v, 0, MOST_SOUGHT) ? town.fewestCoins(v) : finding(BEYOND);
    }

    // ---- told purses

    public int fits(int s, int person) {
        int trouble = troubleWith(s, person);
        if (trouble != FINE) {
            return finding(trouble);
        }
        int fitting = 0;
        for (int price = 0; price < PRICES; price++) {
            if (priceFits(sheets[s], person, price)) {
                fitting++;
            }
        }
        return fitting;
    }

    public int paid(int s, int person) {
        int trouble = troubleWith(s, person);
        if (trouble != FINE) {
            return finding(trouble);
        }
        for (int price = 0; price < PRICES; price++) {
            if (priceFits(sheets[s], person, price)) {
                return price;
            }
        }
        return finding(NONE);
    }

    public int kinds(int s, int person) {
        int trouble = troubleWith(s, person);
        if (trouble != FINE) {
            return finding(trouble);
        }
        int fitting = 0;
        for (int kind = 0; kind < KINDS; kind++) {
            trial.become(town);
            trial.persons[person].kind = kind;
            if (trialGoesAs(sheets[s], person)) {
                fitting |= 1 << kind;
            }
        }
        return fitting;
    }

    // ---- markets

    public int market(int n) {
        if (!within(n, 1, 20)) {
            return finding(BEYOND);
        }
        if (town.day + n > LAST_DAY) {
            return finding(STATE);
        }
        for (int i = 0; i < n; i++) {
            town.drawPayment();
            town.passDay();
        }
        return town.purses();
    }

    public long odds(int person, int n, int what) {
        if (!town.hasPerson(person) || !within(n, 0, 9) || !within(what, 0, 1)) {
            return finding(BEYOND);
        }
        int payable = payablePrices(person);
        int shared = commonDivisor(payable, PRICES);
        int side = what == 0 ? payable / shared : PRICES / shared;
        long power = 1;
        for (int i = 0; i < n; i++) {
            power *= side;
        }
        return power;
    }

    public int seed(int v) {
        int was = town.z;
        town.z = v;
        return was;
    }

    // ---- texts

    public int feed(int bytes, int n) {
        if (!within(n, 1, 4)) {
            return finding(BEYOND);
        }
        if (tape.length + n > MOST_BYTES) {
            return finding(FULL);
        }
        for (int i = n - 1; i >= 0; i--) {
            tape.append(bytes >>> 8 * i & 255);
        }
        return tape.length;
    }

    public int wipe() {
        int had = tape.length;
        tape.length = 0;
        return had;
    }

    public int text() {
        trial.become(town);
        int answer = tape.readInto(trial);
        tape.length = 0;
        if (answer >= 0) {
            town.become(trial);
        }
        return answer;
    }

    // ---- spots, sheets

    public int hold(int spot, int person) {
        if (!isSpot(spot) || person != -1 && !town.hasPerson(person)) {
            return finding(BEYOND);
        }
        town.spots[spot] = person;
        return 1;
    }

    public int as(int spot, int kind) {
        if (!isSpot(spot) || !isKind(kind)) {
            return finding(BEYOND);
        }
        int held = town.spots[spot];
        if (!town.hasPerson(held)) {
            return finding(MISSING);
        }
        return isUnder(town.persons[held].kind, kind) ? held : finding(KIND);
    }

    public int sheet(int s, int bits, int n) {
        if (!isSheet(s) || bits != 0 && bits != 8 && bits != 16 && bits != 32) {
            return finding(BEYOND);
        }
        if (n < 0) {
            return finding(SIZE);
        }
        if (n > MOST_NUMBERS) {
            return finding(BEYOND);
        }
        sheets[s].begin(bits, n);
        return sheets[s].size;
    }

    public int write(int s, int i, int v) {
        int trouble = troubleWithSheet(s);
        if (trouble != FINE) {
            return finding(trouble);
        }
        if (!within(i, 0, sheets[s].size - 1)) {
            return finding(BEYOND);
        }
        sheets[s].put(i, v);
        return 1;
    }

    public int copy(int s, int from, int t, int to, int n) {
        if (!isSheet(s) || !isSheet(t)) {
            return finding(BEYOND);
        }
        if (sheets[s].isMissing() || sheets[t].isMissing()) {
            return finding(MISSING);
        }
        if (sheets[s].bits != sheets[t].bits) {
            return finding(KIND);
        }
        if (!sheets[s].hasPart(from, n) || !sheets[t].hasPart(to, n)) {
            return finding(BEYOND);
        }
        System.arraycopy(sheets[s].numbers, from, sheets[t].numbers, to, n);
        return n;
    }

    public int load(int s) {
        int trouble = troubleWithSheet(s);
        if (trouble != FINE) {
            return finding(trouble);
        }
        int most = Math.min(sheets[s].size, PLACES);
        for (int i = 0; i < most; i++) {
            int payment = sheets[s].numbers[i];
            if (!isPayment(payment)) {
                return i;
            }
            town.payments[i] = payment;
        }
        return most;
    }

    public int judge(int s) {
        int trouble = troubleWithSheet(s);
        if (trouble != FINE) {
            return finding(trouble);
        }
        for (int i = 0; i < sheets[s].size; i++) {
            if (!town.hasPerson(i) || town.persons[i].small != sheets[s].numbers[i]) {
                return 1 + i;
            }
        }
        return 0;
    }

    // ---- images

    public int image() {
        kept.become(town);
        isKept = true;
        return 1;
    }

    public int undo() {
        if (!isKept) {
            return finding(NONE);
        }
        town.become(kept);
        return town.day;
    }

    public int tear() {
        int was = isKept ? 1 : 0;
        isKept = false;
        return was;
    }

    public int count(int what) {
        switch (what) {
            case 0: return town.day;
            case 1: return town.people;
            case 2: return town.purses();
            case 3: return town.sumOf(OF_DEBT);
            case 4: return town.falseOnes;
            case 5: return tape.length;
            case 6: return town.z;
            case 7: return town.heldSpots();
            default: return finding(BEYOND);
        }
    }

    public int status(int which) {
        if (which == -1) {
            return allFindings();
        }
        return within(which, 0, FINDINGS - 1) ? findings[which] : finding(BEYOND);
    }

    // ---- what the calls share

    private int finding(int which) {
        findings[which]++;
        return LOW - which;
    }

    private int allFindings() {
        int sum = 0;
        for (int which = 0; which < FINDINGS; which++) {
            sum += findings[which];
        }
        return sum;
    }

    private int troubleWithSheet(int s) {
        if (!isSheet(s)) {
            return BEYOND;
        }
        return sheets[s].isMissing() ? MISSING : FINE;
    }

    private int troubleWith(int s, int person) {
        int trouble = troubleWithSheet(s);
        if (trouble != FINE) {
            return trouble;
        }
        return town.hasPerson(person) ? FINE : BEYOND;
    }

    private int daysUntil(int event, int person, int v) {
        trial.become(town);
        for (int days = 0; days <= FORESEEN_DAYS; days++) {
            if (trial.showsEvent(event, person, v)) {
                return days;
            }
            trial.passDay();
        }
        return finding(NONE);
    }

    private boolean isEvenWithout(int idle, int n) {
        trial.become(town);
        trial.dropPaymentsOf(idle);
        trial.passDays(n);
        return trial.debtors() == 0;
    }

    private boolean priceFits(Sheet told, int person, int price) {
        trial.become(town);
        trial.setPrice(trial.placeOfDay(), price);
        return trialGoesAs(told, person);
    }

    private boolean trialGoesAs(Sheet told, int person) {
        for (int i = 0; i < told.size; i++) {
            if (i > 0) {
                trial.passDay();
            }
            if (told.numbers[i] != -1 && told.numbers[i] != trial.purseOf(person)) {
                return false;
            }
        }
        return true;
    }

    private int payablePrices(int person) {
        int purse = town.purseOf(person);
        int payable = 0;
        for (int price = 0; price < PRICES; price++) {
            if (town.persons[person].givesFor(price, town.rate) <= purse) {
                payable++;
            }
        }
        return payable;
    }

    private static int commonDivisor(int a, int b) {
        for (int d = b; d > 1; d--) {
            if (a % d == 0 && b % d == 0) {
                return d;
            }
        }
        return 1;
    }

    private static boolean within(int v, int least, int most) {
        return v >= least && v <= most;
    }

    private static boolean isRate(int v) {
        return within(v, LEAST_RATE, MOST_RATE);
    }

    private static boolean isKind(int v) {
        return within(v, 0, KINDS - 1);
    }

    private static boolean isPrice(int v) {
        return within(v, 0, PRICES - 1);
    }

    private static boolean isPlace(int v) {
        return within(v, 0, PLACES - 1);
    }

    private static boolean isSpot(int v) {
        return within(v, 0, SPOTS - 1);
    }

    private static boolean isSheet(int v) {
        return within(v, 0, SHEETS - 1);
    }

    private static boolean isPayment(int v) {
        return within(v, 0, 7799) && payeeIn(v) < MOST_PEOPLE;
    }

    private static int payerIn(int payment) {
        return payment / 1000;
    }

    private static int payeeIn(int payment) {
        return payment / 100 % 10;
    }

    private static int priceIn(int payment) {
        return payment % 100;
    }

    private static int paymentOf(int payer, int payee, int price) {
        return 1000 * payer + 100 * payee + price;
    }

    private static boolean isUnder(int kind, int wanted) {
        int k = kind;
        for (int step = 0; step < KINDS && isKind(k); step++) {
            if (k == wanted) {
                return true;
            }
            k = KIND_ABOVE[k];
        }
        return false;
    }

    private static int mostOf(int what) {
        switch (what) {
            case OF_KIND: return KINDS - 1;
            case OF_SMALL: return MOST_SMALL;
            case OF_SLOW: return MOST_SLOW;
            case OF_DEBT: return MOST_DEBT;
            case OF_WORN: return MOST_WORN;
            default: return MOST_PAID;
        }
    }

    /** One of the people, with what it has and how its kind pays. */
    private static final class Person {
        int kind;
        int small;
        int slow;
        int debt;
        int worn;
        int timesPaid;

        void begin(int newKind, int newSmall) {
            kind = newKind;
            small = newSmall;
            slow = 0;
            debt = 0;
            worn = 0;
            timesPaid = 0;
        }

        void become(Person other) {
            kind = other.kind;
            small = other.small;
            slow = other.slow;
            debt = other.debt;
            worn = other.worn;
            timesPaid = other.timesPaid;
        }

        int trait(int what) {
            switch (what) {
                case OF_KIND: return kind;
                case OF_SMALL: return small;
                case OF_SLOW: return slow;
                case OF_DEBT: return debt;
                case OF_WORN: return worn;
                default: return timesPaid;
            }
        }

        void setTrait(int what, int v) {
            switch (what) {
                case OF_KIND: kind = v; break;
                case OF_SMALL: small = v; break;
                case OF_SLOW: slow = v; break;
                case OF_DEBT: debt = v; break;
                case OF_WORN: worn = v; break;
                default: timesPaid = v; break;
            }
        }

        int purseBy(int rate) {
            return small + rate * slow;
        }

        int givesFor(int price, int rate) {
            int asKeeper = price - price / 10;
            int asElder = worn >= WELL_WORN ? price + 1 : price;
            int asMiser = Math.max(asElder - 2, 0);
            switch (kind) {
                case KEEPER: return asKeeper;
                case FORGER: return asKeeper / 2;
                case ELDER: return asElder;
                case MISER: return asMiser;
                case JUDGE: return Math.max(asMiser, rate);
                case CURATE: return 3 * price;
                default: return price;
            }
        }

        int takesFor(int price) {
            switch (kind) {
                case KEEPER:
                case FORGER: return price + price / 5;
                case MISER:
                case JUDGE: return price + 1;
                case CURATE: return price / 2;
                default: return price;
            }
        }

        int earnsOn(int day) {
            int asElder = day % 7 == 6 ? 3 : 1;
            switch (kind) {
                case KEEPER:
                case CURATE: return 0;
                case FORGER: return FORGED_A_DAY;
                case ELDER: return asElder;
                case MISER:
                case JUDGE: return asElder + slow / 10;
                default: return 1;
            }
        }

        boolean goesToBank() {
            switch (kind) {
                case KEEPER:
                case FORGER:
                case JUDGE: return true;
                case MISER: return false;
                default: return small >= ENOUGH_FOR_BANK;
            }
        }

        /** Pays as much of a cost as it can, owes the rest, and tells that rest. */
        int handOver(int cost, int rate) {
            while (small < cost && slow > 0) {
                slow--;
                small += rate;
            }
            int unpaid = Math.max(cost - small, 0);
            small = Math.max(small - cost, 0);
            debt = Math.min(debt + unpaid, MOST_DEBT);
            timesPaid = Math.min(timesPaid + 1, MOST_PAID);
            return unpaid;
        }

        void receive(int price, int unpaid) {
            worn = Math.min(worn + 1, MOST_WORN);
            int gain = Math.max(takesFor(price) - unpaid, 0);
            small = Math.min(small + gain, MOST_SMALL);
        }

        void earnAndRepay(int day) {
            small = Math.min(small + earnsOn(day), MOST_SMALL);
            int repaid = Math.min(debt, small);
            debt -= repaid;
            small -= repaid;
        }

        void visitBank(int rate) {
            if (!goesToBank() || rate < 1) {
                return;
            }
            int changed = Math.min(small / rate, MOST_SLOW - slow);
            if (changed > 0) {
                small -= changed * rate;
                slow += changed;
                worn = Math.max(worn - 2, 0);
            }
        }
    }

    /** All that an image keeps: people, list, rate, days, draws and spots. */
    private static final class Town {
        int rate = FIRST_RATE;
        int falseOnes = 0;
        int day = 0;
        int z = 1;
        int people = 0;
        final Person[] persons = new Person[MOST_PEOPLE];
        final int[] payments = new int[PLACES];
        final int[] spots = new int[SPOTS];

        Town() {
            for (int p = 0; p < MOST_PEOPLE; p++) {
                persons[p] = new Person();
            }
            for (int i = 0; i < PLACES; i++) {
                payments[i] = FIRST_PAYMENT;
            }
            for (int i = 0; i < SPOTS; i++) {
                spots[i] = -1;
            }
        }

        void become(Town other) {
            rate = other.rate;
            falseOnes = other.falseOnes;
            day = other.day;
            z = other.z;
            people = other.people;
            for (int p = 0; p < people; p++) {
                persons[p].become(other.persons[p]);
            }
            System.arraycopy(other.payments, 0, payments, 0, PLACES);
            System.arraycopy(other.spots, 0, spots, 0, SPOTS);
        }

        boolean hasPerson(int p) {
            return p >= 0 && p < people;
        }

        boolean isFull() {
            return people >= MOST_PEOPLE;
        }

        int addPerson(int kind, int small) {
            int number = people;
            persons[number].begin(kind, small);
            people++;
            return number;
        }

        int told(int p, int what) {
            switch (what) {
                case OF_PURSE: return purseOf(p);
                case OF_EARNS: return persons[p].earnsOn(day);
                case OF_CHANGES: return persons[p].goesToBank() ? 1 : 0;
                default: return persons[p].trait(what);
            }
        }

        int purseOf(int p) {
            return persons[p].purseBy(rate);
        }

        int purses() {
            return sumOf(OF_PURSE);
        }

        int sumOf(int what) {
            int sum = 0;
            for (int p = 0; p < people; p++) {
                sum += told(p, what);
            }
            return sum;
        }

        int debtors() {
            int set = 0;
            for (int p = 0; p < people; p++) {
                if (persons[p].debt > 0) {
                    set |= 1 << p;
                }
            }
            return set;
        }

        int richest() {
            int best = -1;
            int most = -1;
            for (int p = 0; p < people; p++) {
                if (purseOf(p) > most) {
                    most = purseOf(p);
                    best = p;
                }
            }
            return best;
        }

        int heldSpots() {
            int held = 0;
            for (int i = 0; i < SPOTS; i++) {
                if (spots[i] >= 0) {
                    held++;
                }
            }
            return held;
        }

        int fewestCoins(int v) {
            return rate > 0 ? v / rate + v % rate : v;
        }

        int placeOfDay() {
            return day % PLACES;
        }

        void setPrice(int place, int price) {
            int payment = payments[place];
            payments[place] = payment - priceIn(payment) + price;
        }

        boolean canPay(int payer, int payee) {
            return hasPerson(payer) && hasPerson(payee) && payer != payee;
        }

        int makePayment(int payer, int payee, int price) {
            int cost = persons[payer].givesFor(price, rate);
            int unpaid = persons[payer].handOver(cost, rate);
            persons[payee].receive(price, unpaid);
            return unpaid;
        }

        void passDays(int n) {
            for (int i = 0; i < n; i++) {
                passDay();
            }
        }

        void passDay() {
            int payment = payments[placeOfDay()];
            int payer = payerIn(payment);
            int payee = payeeIn(payment);
            if (priceIn(payment) > 0 && canPay(payer, payee)) {
                makePayment(payer, payee, priceIn(payment));
            }
            for (int p = 0; p < people; p++) {
                persons[p].earnAndRepay(day);
                if (persons[p].kind == FORGER) {
                    falseOnes = Math.min(falseOnes + FORGED_A_DAY, MOST_FALSE);
                }
            }
            for (int p = 0; p < people; p++) {
                persons[p].visitBank(rate);
            }
            day = Math.min(day + 1, LAST_DAY);
        }

        /** A payment of nothing is never made, so the list itself can tell who doesn't pay. */
        void dropPaymentsOf(int idle) {
            for (int i = 0; i < PLACES; i++) {
                if ((idle >> payerIn(payments[i]) & 1) == 1) {
                    setPrice(i, 0);
                }
            }
        }

        boolean showsEvent(int event, int p, int v) {
            switch (event) {
                case ONE_HAS: return hasPerson(p) && purseOf(p) >= v;
                case ONE_OWES: return hasPerson(p) && persons[p].debt > 0;
                case NOBODY_OWES: return debtors() == 0;
                default: return falseOnes >= v;
            }
        }

        void drawPayment() {
            int payer = nextDraw() % MOST_PEOPLE;
            int payee = nextDraw() % MOST_PEOPLE;
            payments[placeOfDay()] = paymentOf(payer, payee, nextDraw() % PRICES);
        }

        private int nextDraw() {
            z = z * 1103515245 + 12345;
            return z >>> 8;
        }
    }

    /** A row of numbers of some bits; of 0 bits if it is missing. */
    private static final class Sheet {
        int bits = 0;
        int size = 0;
        final int[] numbers = new int[MOST_NUMBERS];

        boolean isMissing() {
            return bits == 0;
        }

        void begin(int newBits, int n) {
            bits = newBits;
            size = newBits == 0 ? 0 : n;
            for (int i = 0; i < size; i++) {
                numbers[i] = 0;
            }
        }

        void put(int i, int v) {
            switch (bits) {
                case 8: numbers[i] = (byte) v; break;
                case 16: numbers[i] = (short) v; break;
                default: numbers[i] = v; break;
            }
        }

        boolean hasPart(int from, int n) {
            return from >= 0 && n >= 0 && from <= size - n;
        }
    }

    /** Bytes that are read as a text, token by token. */
    private static final class Tape {
        private static final int END = 0;
        private static final int WORD = 1;
        private static final int NUMBER = 2;
        private static final int SIGN = 3;
        private static final int OTHER = 4;
        private static final int BLANK = 32;
        private static final int MOST_VALUE = 9999;

        final int[] bytes = new int[MOST_BYTES];
        int length = 0;
        private int place = 0;
        private int token = END;
        private int tokenStart = 0;
        private int value = 0;

        void append(int b) {
            if (length < MOST_BYTES) {
                bytes[length] = b;
                length++;
            }
        }

        /** Does all that the text tells to a town: how many items, or -1 less the fault. */
        int readInto(Town target) {
            place = 0;
            nextToken();
            for (int items = 1; items <= MOST_BYTES; items++) {
                boolean isRight = isWord("pay") ? readPayment(target)
                    : isWord("rate") ? readRate(target) : readPerson(target);
                if (!isRight) {
                    break;
                }
                if (token == END) {
                    return items;
                }
                if (token != SIGN) {
                    break;
                }
                nextToken();
            }
            return -1 - tokenStart;
        }

        private boolean readPerson(Town target) {
            int kind = kindOfWord();
            if (kind < 0 || target.isFull()) {
                return false;
            }
            Person one = target.persons[target.addPerson(kind, FIRST_SMALL)];
            nextToken();
            return readTrait("small", one, OF_SMALL)
                && readTrait("slow", one, OF_SLOW)
                && readTrait("owes", one, OF_DEBT);
        }

        /** Whether a trait that may stand here is told rightly, or not at all. */
        private boolean readTrait(String word, Person one, int what) {
            if (!isWord(word)) {
                return true;
            }
            nextToken();
            if (!isNumber(0, mostOf(what))) {
                return false;
            }
            one.setTrait(what, value);
            nextToken();
            return true;
        }

        private boolean readPayment(Town target) {
            nextToken();
            int i = takeNumber(PLACES - 1);
            int payer = i < 0 ? -1 : takeNumber(MOST_PEOPLE - 1);
            int payee = payer < 0 ? -1 : takeNumber(MOST_PEOPLE - 1);
            int price = payee < 0 ? -1 : takeNumber(PRICES - 1);
            if (price < 0) {
                return false;
            }
            target.payments[i] = paymentOf(payer, payee, price);
            return true;
        }

        private boolean readRate(Town target) {
            nextToken();
            if (!isNumber(LEAST_RATE, MOST_RATE)) {
                return false;
            }
            target.rate = value;
            nextToken();
            return true;
        }

        /** A number from 0 to a greatest one, gone past; -1, and still there, if it isn't one. */
        private int takeNumber(int most) {
            if (!isNumber(0, most)) {
                return -1;
            }
            int taken = value;
            nextToken();
            return taken;
        }

        private boolean isNumber(int least, int most) {
            return token == NUMBER && within(value, least, most);
        }

        private int kindOfWord() {
            for (int kind = 0; kind < KINDS; kind++) {
                if (isWord(wordOf(kind))) {
                    return kind;
                }
            }
            return -1;
        }

        private static String wordOf(int kind) {
            switch (kind) {
                case KEEPER: return "keeper";
                case ELDER: return "elder";
                case MISER: return "miser";
                case JUDGE: return "judge";
                case CURATE: return "curate";
                case FORGER: return "forger";
                default: return "person";
            }
        }

        private boolean isWord(String word) {
            if (token != WORD || word.length() != place - tokenStart) {
                return false;
            }
            for (int i = 0; i < word.length(); i++) {
                if (bytes[tokenStart + i] != word.charAt(i)) {
                    return false;
                }
            }
            return true;
        }

        private void nextToken() {
            while (place < length && bytes[place] == BLANK) {
                place++;
            }
            tokenStart = place;
            if (place >= length) {
                token = END;
            } else if (isLetter(bytes[place])) {
                token = WORD;
                while (place < length && isLetter(bytes[place])) {
                    place++;
                }
            } else if (isDigit(bytes[place])) {
                token = NUMBER;
                passDigits();
            } else {
                token = bytes[place] == ';' ? SIGN : OTHER;
                place++;
            }
        }

        private void passDigits() {
            value = 0;
            while (place < length && isDigit(bytes[place])) {
                // One above the greatest stands for all that are too great, so that no run of digits wraps around.
                value = Math.min(value * 10 + bytes[place] - '0', MOST_VALUE + 1);
                place++;
            }
        }

        private static boolean isLetter(int b) {
            return b >= 'a' && b <= 'z';
        }

        private static boolean isDigit(int b) {
            return b >= '0' && b <= '9';
        }
    }
}
