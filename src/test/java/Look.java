import java.util.ArrayList;
import java.util.List;
import java.util.function.Consumer;
import java.util.function.ToIntFunction;

/**
 * All that can be seen of an object by calls: its street, what may be undone, the image, the tape, the
 * sheets. Most of that is used up by looking, so a call that should change nothing is made on one of two
 * objects that are alike, and both are looked at behind it. A look takes some 400 calls.
 */
final class Look {
    private static final String[] COUNTS = {
        "puddles", "people", "hour", "depth of all", "dry", "who has claimed", "claimed", "to be undone"};

    private final PuddleClaims x;
    private final List<String> seen = new ArrayList<>();

    private Look(PuddleClaims x) {
        this.x = x;
    }

    /** The call answers as due and changes nothing of what was made before it. */
    static void refused(String call, Consumer<PuddleClaims> before, ToIntFunction<PuddleClaims> deed, int due) {
        PuddleClaims asked = made(before);
        Due.due(call, deed.applyAsInt(asked), due);
        alike(call, asked, made(before));
    }

    /** The call, whatever it answers, changes nothing of what was made before it. */
    static void untouched(String call, Consumer<PuddleClaims> before, ToIntFunction<PuddleClaims> deed) {
        PuddleClaims asked = made(before);
        Due.holds(call + " is not refused as BAD", deed.applyAsInt(asked) != PuddleClaims.BAD);
        alike(call, asked, made(before));
    }

    private static PuddleClaims made(Consumer<PuddleClaims> before) {
        PuddleClaims x = new PuddleClaims();
        before.accept(x);
        return x;
    }

    static void alike(String call, PuddleClaims one, PuddleClaims other) {
        List<String> got = new Look(one).all();
        List<String> want = new Look(other).all();
        for (int k = 0; k < Math.min(got.size(), want.size()); k++) {
            if (!got.get(k).equals(want.get(k))) {
                Due.holds("behind " + call + ": " + got.get(k) + " for " + want.get(k), false);
                return;
            }
        }
        Due.due("behind " + call + ": how much is to be seen", got.size(), want.size());
    }

    /** All that there may be: also an image of another street, two letters on the tape, three sheets. */
    static void busy(PuddleClaims x) {
        withEmptyTape(x);
        x.type('p');
        x.type('4');
    }

    /** It is hour 2; of puddles 0 to 3 the second last is claimed, by 1 of people 0 to 3; six may be undone. */
    static void withEmptyTape(PuddleClaims x) {
        Due.morning(x, "k312,p35;3");
        x.rain(2);
        x.show(1, 6);
        x.image();
        Due.morning(x, "p120,g29,w230,s18;1,2@3/9,1@9,0/30");
        x.seed(77);
        x.hours(1);
        x.rain(3);
        x.drive(2);
        x.later(1, 0);
        x.hours(1);
        x.send(0);
        x.sheet(0, 0, 3);
        x.sheet(1, 2, 2);
        x.sheet(3, 3, 0);
        for (int i = 0; i < 3; i++) {
            x.item(0, 0, i, 5 + i);
            x.item(1, 2, i, 50 + i);
        }
    }

    private void see(String what, long value) {
        seen.add(what + " is " + value);
    }

    private List<String> all() {
        street("");
        history("");
        int had = x.restore();
        see("restore", had);
        if (had == 1) {
            street("in the image: ");
            history("in the image: ");
        }
        tape();
        sheets();
        return seen;
    }

    private void street(String where) {
        brief(where);
        int puddles = x.count(0);
        int people = x.count(1);
        for (int p = 0; p < puddles; p++) {
            see(where + "kind of puddle " + p, x.of(p, 0));
            see(where + "sight of puddle " + p, x.of(p, 1));
        }
        for (int q = 0; q < people; q++) {
            see(where + "what " + q + " lost", x.at(q, 0));
            see(where + "what " + q + " needs", x.at(q, 2));
        }
    }

    /** What undoing may bring back. */
    private void brief(String where) {
        for (int what = 0; what < COUNTS.length; what++) {
            see(where + COUNTS[what], x.count(what));
        }
        int puddles = x.count(0);
        int people = x.count(1);
        for (int p = 0; p < puddles; p++) {
            see(where + "depth of puddle " + p, x.of(p, 2));
        }
        for (int q = 0; q < people; q++) {
            see(where + "when " + q + " comes", x.at(q, 1));
            see(where + "what " + q + " has claimed", x.at(q, 3));
        }
        int draw = x.seed(0);
        x.seed(draw);
        see(where + "the draw", draw);
    }

    private void history(String where) {
        for (int k = 1; k <= 9; k++) {
            int left = x.undo();
            see(where + "undo " + k, left);
            if (left < 0) {
                return;
            }
            brief(where + "undone " + k + ": ");
        }
    }

    private void tape() {
        see("one letter more", x.type('7'));
        see("read", x.read());
        see("puddles of the tape", x.count(0));
        see("depth of its first", x.of(0, 2));
    }

    /** A plain puddle is as deep as an item behind an hour if it is 2 deeper now: so items are seen. */
    private void sheets() {
        Due.morning(x, "p00");
        for (int sheet = 0; sheet <= 3; sheet++) {
            for (int lane = 0; lane <= 3; lane++) {
                row(sheet, lane);
            }
            see("items of sheet " + sheet, x.drop(sheet));
        }
    }

    private void row(int sheet, int lane) {
        int value = 0;
        for (int i = 0; value > PuddleClaims.NULL && i < 24; i++) {
            value = x.dipped(0, sheet, lane, i, 1, 2);
            see("item " + i + " of sheet " + sheet + " as of lane " + lane, value);
        }
    }
}
