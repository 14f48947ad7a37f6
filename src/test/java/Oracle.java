import java.math.BigInteger;
import java.util.ArrayList;
import java.util.Arrays;
import java.util.List;
import java.util.function.IntFunction;
import java.util.function.Predicate;
import java.util.regex.Matcher;
import java.util.regex.Pattern;

/** The document read a second time, at length and with all of the Java library, to compare the class with. */
final class Oracle {
    private enum Kind {
        PERSON(null), KEEPER(PERSON), ELDER(PERSON), MISER(ELDER), JUDGE(MISER), CURATE(PERSON), FORGER(KEEPER);

        final Kind above;

        Kind(Kind above) {
            this.above = above;
        }

        boolean isA(Kind other) {
            return this == other || above != null && above.isA(other);
        }

        int gives(int price, int worn, int rate) {
            switch (this) {
                case PERSON: return price;
                case KEEPER: return PERSON.gives(price, worn, rate) - PERSON.gives(price, worn, rate) / 10;
                case FORGER: return KEEPER.gives(price, worn, rate) / 2;
                case ELDER: return PERSON.gives(price, worn, rate) + (worn >= 50 ? 1 : 0);
                case MISER: return Math.max(0, ELDER.gives(price, worn, rate) - 2);
                case JUDGE: return Math.max(rate, MISER.gives(price, worn, rate));
                default: return 3 * PERSON.gives(price, worn, rate);
            }
        }

        int takes(int price) {
            switch (this) {
                case PERSON: return price;
                case KEEPER: return PERSON.takes(price) + PERSON.takes(price) / 5;
                case FORGER: return KEEPER.takes(price);
                case ELDER: return PERSON.takes(price);
                case MISER: return ELDER.takes(price) + 1;
                case JUDGE: return MISER.takes(price);
                default: return PERSON.takes(price) / 2;
            }
        }

        int earns(int day, int slow) {
            switch (this) {
                case PERSON: return 1;
                case KEEPER: return 0;
                case FORGER: return KEEPER.earns(day, slow) + 5;
                case ELDER: return PERSON.earns(day, slow) + (day % 7 == 6 ? 2 : 0);
                case MISER: return ELDER.earns(day, slow) + slow / 10;
                case JUDGE: return MISER.earns(day, slow);
                default: return PERSON.earns(day, slow) - 1;
            }
        }

        boolean changes(int small) {
            switch (this) {
                case KEEPER: case FORGER: case JUDGE: return true;
                case MISER: return false;
                default: return small >= 100;
            }
        }
    }

    private static final class One {
        Kind kind;
        int small;
        int slow;
        int debt;
        int worn;
        int paid;

        One(Kind kind, int small) {
            this.kind = kind;
            this.small = small;
        }

        One(One other) {
            this(other.kind, other.small);
            slow = other.slow;
            debt = other.debt;
            worn = other.worn;
            paid = other.paid;
        }

        int get(int what) {
            return new int[] {kind.ordinal(), small, slow, debt, worn, paid}[what];
        }

        void put(int what, int v) {
            switch (what) {
                case 0 -> kind = Kind.values()[v];
                case 1 -> small = v;
                case 2 -> slow = v;
                case 3 -> debt = v;
                case 4 -> worn = v;
                default -> paid = v;
            }
        }
    }

    private static final class State {
        int rate = 19;
        int forged = 0;
        int day = 0;
        int z = 1;
        int[] list = {100, 100, 100, 100, 100, 100};
        List<One> people = new ArrayList<>();
        int[] spots = {-1, -1, -1, -1, -1, -1, -1, -1, -1, -1};

        State copy() {
            State s = new State();
            s.rate = rate;
            s.forged = forged;
            s.day = day;
            s.z = z;
            s.list = list.clone();
            people.forEach(one -> s.people.add(new One(one)));
            s.spots = spots.clone();
            return s;
        }

        int purse(int p) {
            return people.get(p).small + rate * people.get(p).slow;
        }

        int sum(int what) {
            int sum = 0;
            for (int p = 0; p < people.size(); p++) {
                sum += what == 6 ? purse(p) : people.get(p).get(what);
            }
            return sum;
        }

        int pay(int payer, int payee, int price) {
            One a = people.get(payer);
            One b = people.get(payee);
            int left = a.kind.gives(price, a.worn, rate);
            while (left > 0 && (a.small > 0 || a.slow > 0)) {
                if (a.small == 0) {
                    a.slow--;
                    a.small = rate;
                }
                a.small--;
                left--;
            }
            a.debt = Math.min(9999, a.debt + left);
            a.paid = Math.min(9999, a.paid + 1);
            b.worn = Math.min(99, b.worn + 1);
            b.small = Math.min(999, b.small + Math.max(0, b.kind.takes(price) - left));
            return left;
        }

        State pass(int days) {
            for (int i = 0; i < days; i++) {
                passOne();
            }
            return this;
        }

        void passOne() {
            int payment = list[day % 6];
            int payer = payment / 1000;
            int payee = payment / 100 % 10;
            if (payment % 100 >= 1 && payer != payee && payer < people.size() && payee < people.size()) {
                pay(payer, payee, payment % 100);
            }
            for (One one : people) {
                one.small = Math.min(999, one.small + one.kind.earns(day, one.slow));
                if (one.kind == Kind.FORGER) {
                    forged = Math.min(9999, forged + 5);
                }
                while (one.debt > 0 && one.small > 0) {
                    one.debt--;
                    one.small--;
                }
            }
            for (One one : people) {
                if (one.kind.changes(one.small)) {
                    boolean once = false;
                    while (one.small >= rate && one.slow < 999) {
                        one.small -= rate;
                        one.slow++;
                        once = true;
                    }
                    one.worn = once ? Math.max(0, one.worn - 2) : one.worn;
                }
            }
            day = Math.min(99999, day + 1);
        }

        int draw() {
            z = (int) (z * 1103515245L + 12345L);
            return z >>> 8;
        }
    }

    private static final class Fault extends RuntimeException {
        private static final long serialVersionUID = 1L;
        final int place;

        Fault(int place) {
            this.place = place;
        }
    }

    private record Token(int place, String word) {
    }

    private static final class Parser {
        private static final Pattern TOKEN = Pattern.compile(" *([a-z]+|[0-9]+|;|[^ ])", Pattern.DOTALL);
        final List<Token> tokens = new ArrayList<>();
        int at = 0;

        Parser(String text) {
            Matcher m = TOKEN.matcher(text);
            while (m.find()) {
                tokens.add(new Token(m.start(1), m.group(1)));
            }
            tokens.add(new Token(text.length(), ""));
        }

        String peek() {
            return tokens.get(at).word();
        }

        Fault fault() {
            return new Fault(tokens.get(at).place());
        }

        int number(int least, int most) {
            if (!peek().matches("[0-9]+")) {
                throw fault();
            }
            BigInteger v = new BigInteger(peek());
            if (v.compareTo(BigInteger.valueOf(least)) < 0 || v.compareTo(BigInteger.valueOf(most)) > 0) {
                throw fault();
            }
            at++;
            return v.intValue();
        }

        boolean skip(String word) {
            boolean is = peek().equals(word);
            at += is ? 1 : 0;
            return is;
        }

        int read(State s) {
            int items = 0;
            do {
                item(s);
                items++;
            } while (skip(";"));
            if (at != tokens.size() - 1) {
                throw fault();
            }
            return items;
        }

        void item(State s) {
            if (skip("rate")) {
                s.rate = number(2, 30);
                return;
            }
            if (skip("pay")) {
                int i = number(0, 5);
                s.list[i] = 1000 * number(0, 7) + 100 * number(0, 7) + number(0, 99);
                return;
            }
            for (Kind kind : Kind.values()) {
                if (peek().equals(kind.name().toLowerCase()) && s.people.size() < 8) {
                    at++;
                    One one = new One(kind, 20);
                    s.people.add(one);
                    one.small = skip("small") ? number(0, 999) : one.small;
                    one.slow = skip("slow") ? number(0, 999) : 0;
                    one.debt = skip("owes") ? number(0, 9999) : 0;
                    return;
                }
            }
            throw fault();
        }
    }

    private State now = new State();
    private State kept = null;
    private String tape = "";
    private final Object[] sheets = new Object[4];
    private final int[] findings = new int[7];

    private int find(int finding) {
        findings[Finding.BEYOND - finding]++;
        return finding;
    }

    private int beyond() {
        return find(Finding.BEYOND);
    }

    private static boolean in(int v, int least, int most) {
        return least <= v && v <= most;
    }

    private boolean one(int p) {
        return in(p, 0, now.people.size() - 1);
    }

    private static boolean payment(int v) {
        return in(v, 0, 7799) && String.format("%04d", v).matches("[0-7][0-7][0-9][0-9]");
    }

    int set(int what, int v) {
        if (what == 0 && in(v, 2, 30)) {
            int was = now.rate;
            now.rate = v;
            return was;
        }
        if (what == 1 && in(v, 0, 9999)) {
            int was = now.forged;
            now.forged = v;
            return was;
        }
        return beyond();
    }

    int list(int i, int payment) {
        if (!in(i, 0, 5) || !payment(payment)) {
            return beyond();
        }
        int was = now.list[i];
        now.list[i] = payment;
        return was;
    }

    int listed(int i) {
        return in(i, 0, 5) ? now.list[i] : beyond();
    }

    int person(int kind, int small) {
        if (!in(kind, 0, 6) || !in(small, 0, 999)) {
            return beyond();
        }
        if (now.people.size() == 8) {
            return find(Finding.FULL);
        }
        now.people.add(new One(Kind.values()[kind], small));
        return now.people.size() - 1;
    }

    private static int told(State s, int p, int what) {
        One one = s.people.get(p);
        switch (what) {
            case 6: return s.purse(p);
            case 7: return one.kind.earns(s.day, one.slow);
            case 8: return one.kind.changes(one.small) ? 1 : 0;
            default: return one.get(what);
        }
    }

    int of(int person, int what) {
        return one(person) && in(what, 0, 8) ? told(now, person, what) : beyond();
    }

    int change(int person, int what, int v) {
        int[] most = {6, 999, 999, 9999, 99, 9999};
        if (!one(person) || !in(what, 0, 5) || !in(v, 0, most[what])) {
            return beyond();
        }
        int was = now.people.get(person).get(what);
        now.people.get(person).put(what, v);
        return was;
    }

    int price(int person, int way, int price) {
        if (!one(person) || !in(way, 0, 1) || !in(price, 0, 99)) {
            return beyond();
        }
        One one = now.people.get(person);
        return way == 0 ? one.kind.gives(price, one.worn, now.rate) : one.kind.takes(price);
    }

    int pay(int payer, int payee, int price) {
        if (!one(payer) || !one(payee) || payer == payee || !in(price, 1, 99)) {
            return beyond();
        }
        return now.pay(payer, payee, price);
    }

    int go(int n) {
        if (!in(n, 1, 60)) {
            return beyond();
        }
        return now.day + n > 99999 ? find(Finding.STATE) : now.pass(n).sum(6);
    }

    int now(int what) {
        switch (what) {
            case 0: return now.day;
            case 1: return now.sum(6);
            case 2: return now.sum(3);
            case 3: return now.forged;
            case 4: return debtors(now);
            case 5: return richest();
            case 6: return now.sum(4);
            case 7: return now.sum(5);
            default: return beyond();
        }
    }

    private static int debtors(State s) {
        int set = 0;
        for (int p = 0; p < s.people.size(); p++) {
            set += s.people.get(p).debt > 0 ? 1 << p : 0;
        }
        return set;
    }

    private int richest() {
        int best = -1;
        for (int p = now.people.size() - 1; p >= 0; p--) {
            if (best < 0 || now.purse(p) >= now.purse(best)) {
                best = p;
            }
        }
        return best;
    }

    int ahead(int person, int what, int n) {
        if (!one(person) || !in(what, 1, 6) || !in(n, 0, 100)) {
            return beyond();
        }
        return told(now.copy().pass(n), person, what);
    }

    private int first(Predicate<State> holds) {
        State s = now.copy();
        for (int days = 0; days <= 200; days++) {
            if (holds.test(s)) {
                return days;
            }
            s.passOne();
        }
        return find(Finding.NONE);
    }

    int rich(int person, int v) {
        return one(person) && in(v, 0, 9999) ? first(s -> s.purse(person) >= v) : beyond();
    }

    int owes(int person) {
        return one(person) ? first(s -> s.people.get(person).debt > 0) : beyond();
    }

    int even() {
        return first(s -> debtors(s) == 0);
    }

    int forged(int v) {
        return in(v, 0, 9999) ? first(s -> s.forged >= v) : beyond();
    }

    int priceFor(int i, int n) {
        if (!in(i, 0, 5) || !in(n, 0, 60)) {
            return beyond();
        }
        int best = -1;
        for (int price = 0; price <= 99; price++) {
            best = debtors(priced(i, price).pass(n)) == 0 ? price : best;
        }
        return best < 0 ? find(Finding.NONE) : best;
    }

    private State priced(int i, int price) {
        State s = now.copy();
        s.list[i] = s.list[i] / 100 * 100 + price;
        return s;
    }

    private static int bestOf(int least, int most, IntFunction<Integer> worth) {
        int best = least;
        for (int v = least; v <= most; v++) {
            best = worth.apply(v) > worth.apply(best) ? v : best;
        }
        return best;
    }

    int rateFor(int n) {
        return in(n, 0, 60) ? bestOf(2, 30, rate -> {
            State s = now.copy();
            s.rate = rate;
            return s.pass(n).sum(6);
        }) : beyond();
    }

    private State ofKind(int person, int kind) {
        State s = now.copy();
        s.people.get(person).kind = Kind.values()[kind];
        return s;
    }

    int kindFor(int person, int n) {
        return one(person) && in(n, 0, 60) ? bestOf(0, 6, kind -> ofKind(person, kind).pass(n).purse(person)) : beyond();
    }

    int smallFor(int person, int n) {
        if (!one(person) || !in(n, 0, 40)) {
            return beyond();
        }
        for (int small = 0; small <= 999; small++) {
            State s = now.copy();
            s.people.get(person).small = small;
            if (s.pass(n).people.get(person).debt == 0) {
                return small;
            }
        }
        return find(Finding.NONE);
    }

    int strike(int n) {
        if (!in(n, 0, 20)) {
            return beyond();
        }
        int best = -1;
        for (int set = (1 << now.people.size()) - 1; set >= 0; set--) {
            State s = now.copy();
            for (int day = 0; day < n; day++) {
                int[] list = s.list;
                s.list = list.clone();
                for (int i = 0; i < 6; i++) {
                    s.list[i] = (set & 1 << list[i] / 1000) != 0 ? 0 : list[i];
                }
                s.passOne();
                s.list = list;
            }
            if (debtors(s) == 0 && (best < 0 || Integer.bitCount(set) <= Integer.bitCount(best))) {
                best = set;
            }
        }
        return best < 0 ? find(Finding.NONE) : best;
    }

    int coins(int v) {
        if (!in(v, 0, 9999)) {
            return beyond();
        }
        int best = v;
        for (int slow = 0; slow * now.rate <= v; slow++) {
            best = Math.min(best, slow + v - slow * now.rate);
        }
        return best;
    }

    private Integer troubleWith(int s) {
        if (!in(s, 0, 3)) {
            return Finding.BEYOND;
        }
        return sheets[s] == null ? Finding.MISSING : null;
    }

    private static int size(Object sheet) {
        return java.lang.reflect.Array.getLength(sheet);
    }

    private static int number(Object sheet, int i) {
        return ((Number) java.lang.reflect.Array.get(sheet, i)).intValue();
    }

    private boolean agrees(int s, int person, State start) {
        for (int i = 0; i < size(sheets[s]); i++) {
            int told = number(sheets[s], i);
            if (told != -1 && told != start.copy().pass(i).purse(person)) {
                return false;
            }
        }
        return true;
    }

    private List<Integer> fitting(int s, int person) {
        List<Integer> prices = new ArrayList<>();
        for (int price = 0; price <= 99; price++) {
            if (agrees(s, person, priced(now.day % 6, price))) {
                prices.add(price);
            }
        }
        return prices;
    }

    int fits(int s, int person) {
        if (troubleWith(s) != null) {
            return find(troubleWith(s));
        }
        return one(person) ? fitting(s, person).size() : beyond();
    }

    int paid(int s, int person) {
        if (troubleWith(s) != null) {
            return find(troubleWith(s));
        }
        if (!one(person)) {
            return beyond();
        }
        List<Integer> prices = fitting(s, person);
        return prices.isEmpty() ? find(Finding.NONE) : prices.get(0);
    }

    int kinds(int s, int person) {
        if (troubleWith(s) != null) {
            return find(troubleWith(s));
        }
        if (!one(person)) {
            return beyond();
        }
        int set = 0;
        for (int kind = 0; kind < 7; kind++) {
            set += agrees(s, person, ofKind(person, kind)) ? 1 << kind : 0;
        }
        return set;
    }

    int market(int n) {
        if (!in(n, 1, 20)) {
            return beyond();
        }
        if (now.day + n > 99999) {
            return find(Finding.STATE);
        }
        for (int i = 0; i < n; i++) {
            int payer = now.draw() % 8;
            int payee = now.draw() % 8;
            int price = now.draw() % 100;
            now.list[now.day % 6] = 1000 * payer + 100 * payee + price;
            now.passOne();
        }
        return now.sum(6);
    }

    long odds(int person, int n, int what) {
        if (!one(person) || !in(n, 0, 9) || !in(what, 0, 1)) {
            return beyond();
        }
        int could = 0;
        for (int price = 0; price <= 99; price++) {
            could += price(person, 0, price) <= now.purse(person) ? 1 : 0;
        }
        BigInteger above = BigInteger.valueOf(could).pow(n);
        BigInteger below = BigInteger.valueOf(100).pow(n);
        return (what == 0 ? above : below).divide(above.gcd(below)).longValueExact();
    }

    int seed(int v) {
        int was = now.z;
        now.z = v;
        return was;
    }

    int feed(int bytes, int n) {
        if (!in(n, 1, 4)) {
            return beyond();
        }
        if (tape.length() + n > 120) {
            return find(Finding.FULL);
        }
        for (int i = n; i > 0; i--) {
            tape += (char) (bytes >> 8 * (i - 1) & 0xff);
        }
        return tape.length();
    }

    int wipe() {
        int had = tape.length();
        tape = "";
        return had;
    }

    int text() {
        State s = now.copy();
        String was = tape;
        tape = "";
        try {
            int items = new Parser(was).read(s);
            now = s;
            return items;
        } catch (Fault f) {
            return -1 - f.place;
        }
    }

    int hold(int spot, int person) {
        if (!in(spot, 0, 9) || person != -1 && !one(person)) {
            return beyond();
        }
        now.spots[spot] = person;
        return 1;
    }

    int as(int spot, int kind) {
        if (!in(spot, 0, 9) || !in(kind, 0, 6)) {
            return beyond();
        }
        if (now.spots[spot] == -1) {
            return find(Finding.MISSING);
        }
        Kind is = now.people.get(now.spots[spot]).kind;
        return is.isA(Kind.values()[kind]) ? now.spots[spot] : find(Finding.KIND);
    }

    int sheet(int s, int bits, int n) {
        if (!in(s, 0, 3) || !Arrays.asList(0, 8, 16, 32).contains(bits)) {
            return beyond();
        }
        if (n < 0) {
            return find(Finding.SIZE);
        }
        if (n > 40) {
            return beyond();
        }
        sheets[s] = bits == 0 ? null : bits == 8 ? new byte[n] : bits == 16 ? new short[n] : new int[n];
        return bits == 0 ? 0 : n;
    }

    int write(int s, int i, int v) {
        if (troubleWith(s) != null) {
            return find(troubleWith(s));
        }
        if (!in(i, 0, size(sheets[s]) - 1)) {
            return beyond();
        }
        if (sheets[s] instanceof byte[] row) {
            row[i] = (byte) v;
        } else if (sheets[s] instanceof short[] row) {
            row[i] = (short) v;
        } else if (sheets[s] instanceof int[] row) {
            row[i] = v;
        }
        return 1;
    }

    int copy(int s, int from, int t, int to, int n) {
        if (!in(s, 0, 3) || !in(t, 0, 3)) {
            return beyond();
        }
        if (sheets[s] == null || sheets[t] == null) {
            return find(Finding.MISSING);
        }
        if (sheets[s].getClass() != sheets[t].getClass()) {
            return find(Finding.KIND);
        }
        if (from < 0 || to < 0 || n < 0 || (long) from + n > size(sheets[s]) || (long) to + n > size(sheets[t])) {
            return beyond();
        }
        int[] were = new int[n];
        for (int i = 0; i < n; i++) {
            were[i] = number(sheets[s], from + i);
        }
        for (int i = 0; i < n; i++) {
            write(t, to + i, were[i]);
        }
        return n;
    }

    int load(int s) {
        if (troubleWith(s) != null) {
            return find(troubleWith(s));
        }
        int came = 0;
        while (came < 6 && came < size(sheets[s]) && payment(number(sheets[s], came))) {
            now.list[came] = number(sheets[s], came);
            came++;
        }
        return came;
    }

    int judge(int s) {
        if (troubleWith(s) != null) {
            return find(troubleWith(s));
        }
        int place = 0;
        while (place < size(sheets[s])) {
            if (!one(place) || now.people.get(place).small != number(sheets[s], place)) {
                return place + 1;
            }
            place++;
        }
        return 0;
    }

    int image() {
        kept = now.copy();
        return 1;
    }

    int undo() {
        if (kept == null) {
            return find(Finding.NONE);
        }
        now = kept.copy();
        return now.day;
    }

    int tear() {
        int was = kept == null ? 0 : 1;
        kept = null;
        return was;
    }

    int count(int what) {
        switch (what) {
            case 0: return now.day;
            case 1: return now.people.size();
            case 2: return now.sum(6);
            case 3: return now.sum(3);
            case 4: return now.forged;
            case 5: return tape.length();
            case 6: return now.z;
            case 7: return (int) Arrays.stream(now.spots).filter(spot -> spot != -1).count();
            default: return beyond();
        }
    }

    int status(int which) {
        if (which == -1) {
            return Arrays.stream(findings).sum();
        }
        return in(which, 0, 6) ? findings[which] : beyond();
    }
}
