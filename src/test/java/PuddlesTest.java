/** Promises 1 to 6 and 9: a new object, puddles, people, what they show and what is told of them. */
public final class PuddlesTest {
    private static final int LOW = Integer.MIN_VALUE, HIGH = Integer.MAX_VALUE;

    public static void main(String[] args) {
        aNewObject();
        puddlesComeInARow();
        puddlesAreRefused();
        peopleCome();
        peopleAreRefused();
        aPuddleShowsAnotherSight();
        whatIsToldOfAPuddle();
        byHowMuchItIsLessDeep();
        whatIsToldOfOne();
        whichAreFit();
        whatIsCounted();
        Due.finish();
    }

    private static void aNewObject() {
        PuddleClaims x = new PuddleClaims();
        for (int what = 0; what <= 7; what++) {
            Due.due("count of a new one", x.count(what), 0);
        }
        Due.due("the draw at first", x.seed(1), 1);
        Due.due("of(0, 0) without any", x.of(0, 0), PuddleClaims.BAD);
        Due.due("at(0, 0) without any", x.at(0, 0), PuddleClaims.BAD);
        Due.due("undo", x.undo(), PuddleClaims.NONE);
        Due.due("restore", x.restore(), PuddleClaims.NONE);
        Due.due("type", x.type('p'), 1);
        for (int sheet = 0; sheet <= 3; sheet++) {
            Due.due("drop", x.drop(sheet), PuddleClaims.NULL);
        }
    }

    private static void puddlesComeInARow() {
        PuddleClaims x = new PuddleClaims();
        for (int p = 0; p < 7; p++) {
            Due.due("puddle", x.puddle(p % 5, 7 - p, 10 * p), p);
            Due.due("how many", x.count(0), p + 1);
        }
        Due.due("an eighth", x.puddle(0, 0, 0), PuddleClaims.FULL);
        Due.due("a bad eighth", x.puddle(5, 0, 0), PuddleClaims.BAD);
        Due.due("still", x.count(0), 7);
        for (int p = 0; p < 7; p++) {
            Due.due("kind", x.of(p, 0), p % 5);
            Due.due("sight", x.of(p, 1), 7 - p);
            Due.due("deep", x.of(p, 2), 10 * p);
        }
    }

    private static void puddlesAreRefused() {
        PuddleClaims x = new PuddleClaims();
        x.rain(1);
        int[][] bad = {{-1, 0, 0}, {5, 0, 0}, {LOW, 0, 0}, {HIGH, 0, 0}, {0, -1, 0}, {0, 8, 0}, {0, HIGH, 0},
            {0, 0, -1}, {0, 0, 61}, {0, 0, LOW}};
        for (int[] b : bad) {
            Due.due("bad puddle", x.puddle(b[0], b[1], b[2]), PuddleClaims.BAD);
        }
        Due.due("none came", x.count(0), 0);
        Due.due("what is refused leaves what may be undone", x.count(7), 1);
        Due.due("the edges stand", x.puddle(4, 7, 60), 0);
        Due.due("a new one leaves nothing to be undone", x.count(7), 0);
    }

    private static void peopleCome() {
        PuddleClaims x = new PuddleClaims();
        x.rain(1);
        for (int q = 0; q < 6; q++) {
            Due.due("person", x.person(q, 4 * q, 5 * q + 1), q);
            Due.due("nothing to be undone", x.count(7), 0);
        }
        Due.due("a seventh", x.person(0, 0, 1), PuddleClaims.FULL);
        Due.due("a bad seventh", x.person(0, 0, 0), PuddleClaims.BAD);
        Due.due("how many", x.count(1), 6);
        for (int q = 0; q < 6; q++) {
            Due.due("lost", x.at(q, 0), q);
            Due.due("comes", x.at(q, 1), 4 * q);
            Due.due("needs", x.at(q, 2), 5 * q + 1);
            Due.due("claimed", x.at(q, 3), PuddleClaims.NONE);
        }
    }

    private static void peopleAreRefused() {
        PuddleClaims x = new PuddleClaims();
        x.rain(1);
        int[][] bad = {{-1, 0, 1}, {8, 0, 1}, {HIGH, 0, 1}, {0, -1, 1}, {0, 21, 1}, {0, LOW, 1},
            {0, 0, 0}, {0, 0, 31}, {0, 0, -1}, {0, 0, HIGH}};
        for (int[] b : bad) {
            Due.due("bad person", x.person(b[0], b[1], b[2]), PuddleClaims.BAD);
        }
        Due.due("none came", x.count(1), 0);
        Due.due("still to be undone", x.count(7), 1);
        Due.due("the edges stand", x.person(7, 20, 30), 0);
    }

    private static void aPuddleShowsAnotherSight() {
        PuddleClaims x = Due.street("p09,s17");
        Due.due("show", x.show(0, 5), 0);
        Due.due("show again", x.show(0, 5), 5);
        Due.due("shows", x.of(0, 1), 5);
        Due.due("the other", x.of(1, 1), 1);
        int[][] bad = {{2, 0}, {-1, 0}, {HIGH, 0}, {0, 8}, {0, -1}};
        for (int[] b : bad) {
            Due.due("bad show", x.show(b[0], b[1]), PuddleClaims.BAD);
        }
        Due.due("still", x.of(0, 1), 5);
        Due.due("it is not to be undone", x.count(7), 0);
    }

    private static void whatIsToldOfAPuddle() {
        PuddleClaims x = Due.street("k325,w100;3,3");
        int[] before = {2, 3, 25, PuddleClaims.NONE, 4};
        for (int what = 0; what < 5; what++) {
            Due.due("of " + what, x.of(0, what), before[what]);
        }
        Due.due("hours", x.hours(1), 1);
        int[] behind = {2, 3, 21, 0, 2};
        for (int what = 0; what < 5; what++) {
            Due.due("then of " + what, x.of(0, what), behind[what]);
        }
        Due.due("nobody has the other", x.of(1, 3), PuddleClaims.NONE);
        int[][] bad = {{2, 0}, {-1, 0}, {LOW, 3}, {0, 5}, {0, -1}, {0, HIGH}};
        for (int[] b : bad) {
            Due.due("bad of", x.of(b[0], b[1]), PuddleClaims.BAD);
        }
    }

    private static void byHowMuchItIsLessDeep() {
        PuddleClaims x = Due.street("p01,s01,k01,w029,w030,g09,g00");
        int[] even = {2, 1, 4, 1, 0, 6, 4};
        int[] odd = {2, 1, 2, 1, 0, 4, 2};
        for (int p = 0; p < 7; p++) {
            Due.due("in an even hour, " + p, x.of(p, 4), even[p]);
        }
        x.hours(1);
        x.rain(1);
        x.drive(6);
        for (int p = 0; p < 7; p++) {
            Due.due("in an odd hour, " + p, x.of(p, 4), odd[p]);
        }
        // A grate's neighbours: both, one at the row's end, and never itself.
        Due.due("between two dry ones", Due.street("p00,g09,p00").of(1, 4), 8);
        Due.due("at the end", Due.street("g09,p00").of(0, 4), 6);
        Due.due("alone", Due.street("g09").of(0, 4), 4);
        Due.due("itself dry", Due.street("p09,g00,p09").of(1, 4), 4);
        Due.due("not the next but one", Due.street("g09,p09,p00").of(0, 4), 4);
    }

    private static void whatIsToldOfOne() {
        PuddleClaims x = Due.street("p430;4@2/30,5");
        int[] before = {4, 2, 30, PuddleClaims.NONE, 1};
        for (int what = 0; what < 5; what++) {
            Due.due("at " + what, x.at(0, what), before[what]);
        }
        x.rain(10);
        x.hours(3);
        int[] behind = {4, 2, 30, 0, 0};
        for (int what = 0; what < 5; what++) {
            Due.due("then at " + what, x.at(0, what), behind[what]);
        }
        int[][] bad = {{2, 0}, {-1, 0}, {LOW, 3}, {0, 5}, {0, -1}, {0, HIGH}};
        for (int[] b : bad) {
            Due.due("bad at", x.at(b[0], b[1]), PuddleClaims.BAD);
        }
    }

    private static void whichAreFit() {
        PuddleClaims x = Due.street("p19,p110,p211,p160;1@20/10,1@0/30,2/12");
        Due.due("those deep enough that show it", x.at(0, 4), 10);
        Due.due("deeper", x.at(1, 4), 8);
        Due.due("not deep enough", x.at(2, 4), 0);
        x.hours(1);
        Due.due("claimed, by another", x.at(0, 4), 0);
        Due.due("claimed, by himself", x.at(1, 4), 0);
    }

    private static void whatIsCounted() {
        PuddleClaims x = Due.street("p09,s00,k12;0,5,1/2");
        int[] before = {3, 3, 0, 11, 2, 0, 0, 0};
        for (int what = 0; what <= 7; what++) {
            Due.due("count " + what, x.count(what), before[what]);
        }
        x.hours(2);
        int[] behind = {3, 3, 2, 5, 6, 5, 5, 2};
        for (int what = 0; what <= 7; what++) {
            Due.due("then count " + what, x.count(what), behind[what]);
        }
        Due.due("count 8", x.count(8), PuddleClaims.BAD);
        Due.due("count -1", x.count(-1), PuddleClaims.BAD);
        Due.due("count low", x.count(LOW), PuddleClaims.BAD);
    }
}
