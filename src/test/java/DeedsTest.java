/** Promises 10 to 17: hours, rain, carts, people sent home or coming at another hour, and all that undone. */
public final class DeedsTest {
    private static final int LOW = Integer.MIN_VALUE, HIGH = Integer.MAX_VALUE;

    public static void main(String[] args) {
        hoursPass();
        claimsAreMade();
        allIsTakenAheadOfTheHour();
        hoursAreRefused();
        itRains();
        cartsDriveThrough();
        oneIsSentHome();
        oneComesLater();
        itDrifts();
        theDraw();
        thingsAreUndone();
        eightAreKnown();
        whateverWasToldSince();
        Due.finish();
    }

    private static void depths(String when, PuddleClaims x, int... due) {
        for (int p = 0; p < due.length; p++) {
            Due.due(when + ": depth of " + p, x.of(p, 2), due[p]);
        }
    }

    private static void hoursPass() {
        PuddleClaims x = Due.street("p09,s09,k09,w09,w031,g09");
        x.hours(1);
        depths("behind hour 0", x, 7, 8, 5, 8, 31, 5);
        x.hours(1);
        depths("behind hour 1", x, 5, 7, 3, 7, 31, 3);
        x.hours(1);
        depths("behind hour 2", x, 3, 6, 0, 6, 31, 0);
        x.hours(40);
        depths("much later", x, 0, 0, 0, 0, 31, 0);
        Due.due("the hour", x.count(2), 43);
        x.drive(4);
        x.hours(2);
        Due.due("a well that is not so deep", x.of(4, 2), 13);
    }

    private static void claimsAreMade() {
        PuddleClaims x = Due.street("p15,p19,p19,p216;1@1,1,1/9,2@2/13,1/6,1/5");
        Due.due("hour 0: the deepest, of like ones the first, and so on", x.hours(1), 38);
        Due.due("of like ones the first", x.at(1, 3), 1);
        Due.due("the next", x.at(2, 3), 2);
        Due.due("not deep enough any more", x.at(4, 3), PuddleClaims.NONE);
        Due.due("the last", x.at(5, 3), 0);
        Due.due("who has it", x.of(2, 3), 2);
        Due.due("hour 1: none left", x.hours(1), 38);
        Due.due("hour 2: it is 12 deep by then", x.hours(1), 38);
        x.rain(1);
        Due.due("hour 3: 11 deep", x.hours(1), 38);
        x.rain(9);
        Due.due("whoever came before claims as soon as one is fit", x.hours(1), 46);
        Due.due("it", x.at(3, 3), 3);
    }

    private static void allIsTakenAheadOfTheHour() {
        // The neighbours get dry in this very hour: the grate loses more from the next one on.
        PuddleClaims x = Due.street("p02,g020,p01");
        x.hours(1);
        depths("behind it", x, 0, 16, 0);
        x.hours(1);
        depths("behind the next", x, 0, 10, 0);
        // A claim is made by the depth ahead of the loss.
        Due.due("deep enough still", Due.street("p05;0/5").hours(1), 1);
        Due.due("not deep enough", Due.street("p04;0/5").hours(1), 0);
    }

    private static void hoursAreRefused() {
        PuddleClaims x = Due.street("p060;0");
        int[] bad = {0, -1, 41, LOW, HIGH};
        for (int n : bad) {
            Due.due("hours " + n, x.hours(n), PuddleClaims.BAD);
            Due.due("drift " + n, x.drift(n), PuddleClaims.BAD);
        }
        Due.due("still", x.count(2), 0);
        for (int k = 0; k < 249; k++) {
            x.hours(40);
        }
        Due.due("the hour", x.count(2), 9960);
        Due.due("one too many", x.hours(40), PuddleClaims.FULL);
        Due.due("one too many", x.drift(40), PuddleClaims.FULL);
        Due.due("bad before full", x.hours(41), PuddleClaims.BAD);
        Due.due("still", x.count(2), 9960);
        Due.due("the draw too", x.seed(1), 1);
        Due.due("just so", x.hours(39), 1);
        Due.due("the last hour", x.count(2), 9999);
        Due.due("full", x.hours(1), PuddleClaims.FULL);
        Due.due("full", x.drift(1), PuddleClaims.FULL);
        Due.due("foretold all the same", x.then(40), 1);
        Due.due("undone", x.undo(), 7);
        Due.due("again", x.drift(1), 1);
    }

    private static void itRains() {
        PuddleClaims x = Due.street("p00,s050,w010");
        Due.due("rain 15", x.rain(15), 15 + 60 + 25);
        depths("rained on", x, 15, 60, 25);
        Due.due("rain 60", x.rain(60), 180);
        int[] bad = {0, -1, 61, LOW, HIGH};
        for (int n : bad) {
            Due.due("rain " + n, x.rain(n), PuddleClaims.BAD);
        }
        Due.due("two may be undone", x.count(7), 2);
        Due.due("on none", new PuddleClaims().rain(3), 0);
    }

    private static void cartsDriveThrough() {
        PuddleClaims x = Due.street("p07,p00");
        Due.due("half", x.drive(0), 3);
        Due.due("half", x.drive(0), 1);
        Due.due("half", x.drive(0), 0);
        Due.due("dry", x.drive(0), PuddleClaims.NOT);
        Due.due("dry", x.drive(1), PuddleClaims.NOT);
        int[] bad = {2, -1, LOW, HIGH};
        for (int p : bad) {
            Due.due("drive " + p, x.drive(p), PuddleClaims.BAD);
        }
        Due.due("three may be undone", x.count(7), 3);
    }

    private static void oneIsSentHome() {
        PuddleClaims x = Due.street("p19,p112;1,1,2");
        x.hours(1);
        Due.due("send", x.send(0), 1);
        Due.due("has none", x.at(0, 3), PuddleClaims.NONE);
        Due.due("nobody has it", x.of(1, 3), PuddleClaims.NONE);
        Due.due("again", x.send(0), PuddleClaims.NOT);
        Due.due("never had", x.send(2), PuddleClaims.NOT);
        int[] bad = {3, -1, LOW, HIGH};
        for (int q : bad) {
            Due.due("send " + q, x.send(q), PuddleClaims.BAD);
        }
        Due.due("two may be undone", x.count(7), 2);
        Due.due("he claims anew", x.hours(1), 3);
    }

    private static void oneComesLater() {
        PuddleClaims x = Due.street("p19;1@3");
        Due.due("later", x.later(0, 20), 3);
        Due.due("comes", x.at(0, 1), 20);
        Due.due("it is so", x.later(0, 20), PuddleClaims.NOT);
        Due.due("sooner", x.later(0, 0), 20);
        int[][] bad = {{1, 0}, {-1, 0}, {HIGH, 0}, {0, 21}, {0, -1}, {0, LOW}};
        for (int[] b : bad) {
            Due.due("bad later", x.later(b[0], b[1]), PuddleClaims.BAD);
        }
        Due.due("two may be undone", x.count(7), 2);
        Due.due("he claims", x.hours(1), 1);
        Due.due("whoever has claimed may be told too", x.later(0, 9), 0);
        Due.due("and keeps it", x.at(0, 3), 0);
    }

    /** By hand: the draws from 1 on, what each by 65536 leaves over by 3, and the cart's puddle of two. */
    private static void itDrifts() {
        PuddleClaims x = Due.street("w060,w060;0@20");
        long draw = 1;
        int[] deep = {60, 60};
        for (int k = 0; k < 20; k++) {
            draw = (draw * 1103515245L + 12345L) % 2147483648L;
            if (draw / 65536 % 3 == 0) {
                deep[(int) (draw / 128 % 2)] /= 2;
            }
            for (int p = 0; p < 2; p++) {
                deep[p] = deep[p] >= 30 ? deep[p] : Math.max(0, deep[p] - 1);
            }
            Due.due("drift", x.drift(1), 0);
            depths("drift " + k, x, deep);
        }
        Due.due("the hour", x.count(2), 20);
        Due.due("the draw", x.seed(0), draw);
        Due.due("eight may be undone", x.count(7), 8);
        PuddleClaims once = Due.street("w060,w060;0@20");
        Due.due("twenty at once", once.drift(20), 0);
        depths("twenty at once", once, deep);
        Due.due("the draw", once.seed(0), draw);
        PuddleClaims none = new PuddleClaims();
        Due.due("without any", none.drift(2), 0);
        Due.due("the draw goes on", none.seed(1), 377401575L);
        Due.due("nor is any cart drawn in so many hours", none.drift(40), 0);
        Due.due("claims are made", Due.street("p09;0").drift(1), 1);
    }

    private static void theDraw() {
        PuddleClaims x = Due.street("p060");
        Due.due("seed", x.seed(HIGH), 1);
        Due.due("below 0", x.seed(-1), PuddleClaims.BAD);
        Due.due("below 0", x.seed(LOW), PuddleClaims.BAD);
        Due.due("what it was", x.seed(0), HIGH);
        x.drift(1);
        Due.due("12345, which draws a cart", x.seed(1), 12345);
        Due.due("deep by half, less 2", x.of(0, 2), 28);
        Due.due("hours leave it", x.hours(1), 0);
        Due.due("1", x.seed(5), 1);
    }

    private static void thingsAreUndone() {
        PuddleClaims x = Due.street("p19,k130;1@2,1");
        x.seed(0);
        x.hours(1);
        x.rain(5);
        x.drive(1);
        x.send(1);
        x.later(0, 9);
        x.drift(1);
        depths("ahead of undoing", x, 4, 13);
        Due.due("undo drift", x.undo(), 5);
        depths("drift undone with its cart", x, 12, 15);
        Due.due("its draw too", x.seed(0), 0);
        Due.due("its claim too", x.count(5), 0);
        Due.due("undo later", x.undo(), 4);
        Due.due("comes", x.at(0, 1), 2);
        Due.due("undo send", x.undo(), 3);
        Due.due("claimed", x.at(1, 3), 1);
        Due.due("undo drive", x.undo(), 2);
        Due.due("deep", x.of(1, 2), 31);
        Due.due("undo rain", x.undo(), 1);
        depths("rain undone", x, 7, 26);
        Due.due("undo the hour", x.undo(), 0);
        Due.due("the hour", x.count(2), 0);
        depths("the hour undone", x, 9, 30);
        Due.due("claims", x.count(5), 0);
        Due.due("none", x.undo(), PuddleClaims.NONE);
    }

    private static void eightAreKnown() {
        PuddleClaims x = Due.street("w060,s060");
        x.hours(12);
        Due.due("known", x.count(7), 8);
        for (int k = 7; k >= 0; k--) {
            Due.due("undo", x.undo(), k);
            Due.due("the hour", x.count(2), k + 4);
            Due.due("deep", x.of(1, 2), 56 - k);
        }
        Due.due("older ones are lost", x.undo(), PuddleClaims.NONE);
        Due.due("and all stays", x.count(2), 4);
        x.rain(1);
        x.drive(0);
        Due.due("behind undoing too", x.undo(), 1);
        Due.due("deep", x.of(0, 2), 60);
    }

    private static void whateverWasToldSince() {
        PuddleClaims x = Due.street("p19");
        x.seed(40);
        x.rain(1);
        x.seed(50);
        x.show(0, 6);
        Due.due("undo", x.undo(), 0);
        Due.due("the draw is as ahead of it", x.seed(1), 40);
        Due.due("what is shown stays", x.of(0, 1), 6);
        x.rain(1);
        x.puddle(0, 0, 0);
        Due.due("a new puddle", x.undo(), PuddleClaims.NONE);
        x.rain(1);
        x.person(0, 0, 1);
        Due.due("one more of people", x.undo(), PuddleClaims.NONE);
        x.rain(1);
        Due.morning(x, "p00");
        Due.due("a morning", x.undo(), PuddleClaims.NONE);
    }
}
