import java.util.ArrayList;
import java.util.List;

/** All that an object can be made to tell of itself, some 290 calls long; the object is spent then. */
final class Told {
    private final WinkPurses x;
    private final List<String> rows = new ArrayList<>();

    private Told(WinkPurses x) {
        this.x = x;
    }

    static List<String> by(WinkPurses x) {
        Told told = new Told(x);
        told.town();
        told.sheets();
        told.tape();
        told.image();
        return told.rows;
    }

    /** What an image keeps, alone. */
    static List<String> ofTown(WinkPurses x) {
        Told told = new Told(x);
        told.town();
        return told.rows;
    }

    private void row(String name, long answer) {
        rows.add(name + " is " + answer);
    }

    private void town() {
        for (int what = 0; what <= 7; what++) {
            row("now(" + what + ")", x.now(what));
            // The tape is no part of the town: it is told by itself.
            row("count(" + what + ")", what == 5 ? 0 : x.count(what));
        }
        for (int i = 0; i < 6; i++) {
            row("listed(" + i + ")", x.listed(i));
        }
        for (int p = 0; p < 8; p++) {
            for (int what = 0; what <= 5; what++) {
                row("of(" + p + ", " + what + ")", x.of(p, what));
            }
        }
        for (int spot = 0; spot < 10; spot++) {
            row("as(" + spot + ", 0)", x.as(spot, 0));
        }
        row("RATE", x.set(0, 19));
    }

    private void sheets() {
        int[] sizes = {0, 1, 2, 3, 6, 7, 8, 12, 13, 40};
        for (int s = 0; s < 4; s++) {
            for (int n : sizes) {
                row("sheet " + s + " has " + n, x.copy(s, 0, s, 0, n));
            }
            for (int t = 0; t < s; t++) {
                row("sheets " + s + " and " + t + " are of as many bits", x.copy(s, 0, t, 0, 0));
            }
        }
        for (int s = 0; s < 4; s++) {
            numbers(s);
            x.copy(s, 6, s, 0, 1);
            x.copy(s, 6, s, 0, 6);
            numbers(s);
        }
    }

    private void numbers(int s) {
        row("load(" + s + ")", x.load(s));
        for (int i = 0; i < 6; i++) {
            row("number " + i + " of sheet " + s, x.listed(i));
        }
    }

    private void tape() {
        row("bytes of the tape", x.count(5));
        row("text()", x.text());
        row("RATE by the text", x.set(0, 19));
        row("listed(4) by the text", x.listed(4));
    }

    private void image() {
        row("undo()", x.undo());
        town();
        row("tear()", x.tear());
    }
}
