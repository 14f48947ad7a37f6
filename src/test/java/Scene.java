/** Towns that the tests of boundary cases begin with. */
final class Scene {
    private Scene() {
    }

    static WinkPurses empty() {
        return new WinkPurses();
    }

    /** One of each kind, with all of it other than at first, and an image of how it was a while before. */
    static WinkPurses town() {
        WinkPurses x = new WinkPurses();
        x.set(0, 11);
        x.set(1, 22);
        for (int kind = 0; kind < 7; kind++) {
            int p = x.person(kind, 30 + kind);
            for (int what = 2; what <= 5; what++) {
                x.change(p, what, 10 * what + kind);
            }
        }
        int[] payments = {107, 1203, 2304, 3405, 4506, 5601};
        for (int i = 0; i < 6; i++) {
            x.list(i, payments[i]);
        }
        x.go(4);
        x.seed(-77);
        x.hold(0, 2);
        x.hold(9, 6);
        x.image();
        x.go(1);
        x.set(0, 13);
        x.hold(5, 4);
        x.list(2, 1234);
        x.seed(55);
        sheet(x, 0, 8, 7);
        sheet(x, 1, 16, 12);
        sheet(x, 3, 16, 3);
        feed(x, "rate 9;pay 4 3 2 1");
        x.status(9);
        return x;
    }

    /** The same with an eighth one. */
    static WinkPurses fullTown() {
        WinkPurses x = town();
        x.person(2, 888);
        return x;
    }

    /** A town with nothing kept. */
    static WinkPurses townWithoutImage() {
        WinkPurses x = town();
        x.tear();
        return x;
    }

    /** Two PERSONS with as many SMALL winks, and no PAYMENT yet. */
    static WinkPurses two(int payer, int payee) {
        WinkPurses x = new WinkPurses();
        x.person(0, payer);
        x.person(0, payee);
        return x;
    }

    /** One of a kind with all that it has. */
    static int add(WinkPurses x, int kind, int... traits) {
        int p = x.person(kind, traits[0]);
        for (int i = 1; i < traits.length; i++) {
            x.change(p, i + 1, traits[i]);
        }
        return p;
    }

    static void tell(WinkPurses x, int s, int bits, int... numbers) {
        x.sheet(s, bits, numbers.length);
        for (int i = 0; i < numbers.length; i++) {
            x.write(s, i, numbers[i]);
        }
    }

    static void feed(WinkPurses x, String text) {
        for (int place = 0; place < text.length(); place += 4) {
            int n = Math.min(4, text.length() - place);
            int number = 0;
            for (int i = 0; i < n; i++) {
                number = number << 8 | text.charAt(place + i);
            }
            x.feed(number, n);
        }
    }

    static int read(WinkPurses x, String text) {
        feed(x, text);
        return x.text();
    }

    private static void sheet(WinkPurses x, int s, int bits, int n) {
        x.sheet(s, bits, n);
        for (int i = 0; i < n; i++) {
            x.write(s, i, 20 * s + i + 1);
        }
    }
}
