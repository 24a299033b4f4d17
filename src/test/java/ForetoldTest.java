/** Promises 18 to 29: what is foretold, and that nothing is changed by it. */
public final class ForetoldTest {
    private static final int LOW = Integer.MIN_VALUE, HIGH = Integer.MAX_VALUE;

    public static void main(String[] args) {
        howDeep();
        whatIsClaimed();
        whoHasClaimed();
        whenOneIsServed();
        whenAPuddleDries();
        howManyAtOnce();
        theLatestHour();
        theOrder();
        theOrderBehindSomeHours();
        theLeastRain();
        whichMatters();
        whatShouldBeSeen();
        theOddsOfCarts();
        nothingIsChanged();
        Due.finish();
    }

    private static void howDeep() {
        PuddleClaims x = Due.street("p09,k09,w031");
        int[] kerb = {9, 5, 3, 0, 0};
        for (int n = 0; n < 5; n++) {
            Due.due("plain behind " + n, x.ahead(0, n), 9 - 2 * n);
            Due.due("kerb behind " + n, x.ahead(1, n), kerb[n]);
        }
        Due.due("behind 40", x.ahead(2, 40), 31);
        x.hours(1);
        Due.due("from now", x.ahead(1, 1), 3);
        int[][] bad = {{3, 0}, {-1, 0}, {HIGH, 0}, {0, -1}, {0, 41}, {0, LOW}};
        for (int[] b : bad) {
            Due.due("bad ahead", x.ahead(b[0], b[1]), PuddleClaims.BAD);
        }
    }

    private static void whatIsClaimed() {
        PuddleClaims x = Due.street("p19,p15;1@3,1,2");
        Due.due("ahead of his hour", x.claims(0, 3), PuddleClaims.NONE);
        Due.due("behind it", x.claims(0, 4), PuddleClaims.NONE);
        Due.due("the other one", x.claims(1, 1), 0);
        Due.due("not yet", x.claims(1, 0), PuddleClaims.NONE);
        Due.due("lost something else", x.claims(2, 40), PuddleClaims.NONE);
        x.later(0, 2);
        Due.due("told now", x.claims(0, 3), 1);
        int[][] bad = {{3, 0}, {-1, 0}, {LOW, 0}, {0, -1}, {0, 41}, {0, HIGH}};
        for (int[] b : bad) {
            Due.due("bad claims", x.claims(b[0], b[1]), PuddleClaims.BAD);
        }
    }

    private static void whoHasClaimed() {
        PuddleClaims x = Due.street("w140,w240,w340;1@3,2,3@20");
        int[][] due = {{0, 0}, {1, 2}, {3, 2}, {4, 3}, {20, 3}, {21, 7}, {40, 7}};
        for (int[] d : due) {
            Due.due("then " + d[0], x.then(d[0]), d[1]);
        }
        Due.due("then -1", x.then(-1), PuddleClaims.BAD);
        Due.due("then 41", x.then(41), PuddleClaims.BAD);
        Due.due("then low", x.then(LOW), PuddleClaims.BAD);
        x.hours(1);
        Due.due("who has claimed before counts", x.then(0), 2);
    }

    private static void whenOneIsServed() {
        PuddleClaims x = Due.street("w140,p240;1@20,2@2,3,2@3");
        Due.due("behind his hour", x.served(0), 21);
        Due.due("soon", x.served(1), 3);
        Due.due("never", x.served(2), PuddleClaims.NONE);
        Due.due("another has it", x.served(3), PuddleClaims.NONE);
        x.hours(3);
        Due.due("he has it", x.served(1), 0);
        Due.due("three hours less", x.served(0), 18);
        int[] bad = {4, -1, LOW, HIGH};
        for (int q : bad) {
            Due.due("bad served", x.served(q), PuddleClaims.BAD);
        }
    }

    private static void whenAPuddleDries() {
        PuddleClaims x = Due.street("p00,p01,s040,s041,w029,w030");
        int[] due = {0, 1, 40, PuddleClaims.NONE, 29, PuddleClaims.NONE};
        for (int p = 0; p < due.length; p++) {
            Due.due("dries " + p, x.dries(p), due[p]);
        }
        int[] bad = {6, -1, LOW, HIGH};
        for (int p : bad) {
            Due.due("bad dries", x.dries(p), PuddleClaims.BAD);
        }
    }

    private static void howManyAtOnce() {
        Due.due("nobody", new PuddleClaims().match(), 0);
        Due.due("no puddle", Due.street("p00;0").match(), 0);
        // The first takes what only he can leave: room has to be made for each next one.
        Due.due("a chain", Due.street("p13,p16,p19;1,1/4,1/7").match(), 3);
        Due.due("a chain from the other end", Due.street("p19,p16,p13;1/7,1/4,1").match(), 3);
        Due.due("too few deep ones", Due.street("p13,p13,p19;1/9,1/8,1").match(), 2);
        Due.due("two for the same", Due.street("p13;1,1").match(), 1);
        Due.due("whenever they come", Due.street("p13,p23;1@20,2@9").match(), 2);
        Due.due("six", Due.street("p11,p12,p13,p14,p15,p16,p17;1/2,1/3,1/4,1/5,1/6,1/7").match(), 6);
        Due.due("six, each moved on for the next", Due.street("p17,p16,p15,p14,p13,p12;1/2,1/3,1/4,1/5,1/6,1/7").match(), 6);
        PuddleClaims x = Due.street("p130,p120,p230;1/15,1,1,2@9");
        Due.due("ahead", x.match(), 3);
        x.hours(1);
        Due.due("claimed ones are out of it", x.match(), 1);
        x.send(0);
        Due.due("sent home, he is in it", x.match(), 2);
    }

    private static void theLatestHour() {
        PuddleClaims x = Due.street("p19,w240,p39;1@20/3,2,3@4,3,1/8");
        Due.due("ahead of the last one, by his number", x.latest(0), 0);
        Due.due("it stays", x.latest(1), 20);
        Due.due("the other is there first", x.latest(2), 0);
        Due.due("ahead of the other, who would be the first of that hour", x.latest(3), 3);
        Due.due("nothing of it is there", Due.street("p060;1").latest(0), PuddleClaims.NONE);
        Due.due("only now", x.latest(4), 0);
        x.hours(1);
        Due.due("he has claimed", x.latest(4), 20);
        int[] bad = {5, -1, LOW, HIGH};
        for (int q : bad) {
            Due.due("bad latest", x.latest(q), PuddleClaims.BAD);
        }
        PuddleClaims late = Due.street("p160;1/10");
        late.later(0, 20);
        Due.due("by its depth", late.latest(0), 20);
        late.hours(5);
        Due.due("still", late.latest(0), 20);
        late.drive(0);
        Due.due("25 deep, so 7 hours more", late.latest(0), 12);
    }

    private static void theOrder() {
        // The second needs it deepest, so he had better come first.
        PuddleClaims x = Due.street("p110,p18;1/6,1/10");
        Due.due("how many", x.order(5, -1), 2);
        Due.due("first", x.order(5, 0), 1);
        Due.due("second", x.order(5, 1), 0);
        Due.due("not so many", x.order(5, 2), PuddleClaims.NONE);
        Due.due("not so many", x.order(5, HIGH), PuddleClaims.NONE);
        int[][] bad = {{0, 0}, {-1, 0}, {31, 0}, {HIGH, -1}, {1, -2}, {1, LOW}};
        for (int[] b : bad) {
            Due.due("bad order", x.order(b[0], b[1]), PuddleClaims.BAD);
        }
        Due.due("the edges stand", x.order(30, -1), 2);
        // In one hour only the first has come.
        Due.due("one hour", x.order(1, -1), 1);
        Due.due("of like ones the first", x.order(1, 0), 0);
        Due.due("and then", x.order(1, 1), 1);
        // The second finds nothing whenever he comes; the third only if he is the first.
        PuddleClaims three = Due.street("p110,p18;1/6,7,1/10");
        int[] order = {2, 2, 0, 1, PuddleClaims.NONE};
        for (int k = 0; k < order.length; k++) {
            Due.due("of three, " + (k - 1), three.order(3, k - 1), order[k]);
        }
        Due.due("what one has the other can't have", Due.street("p19,p29;1,1").order(5, -1), 1);
        Due.due("nobody", new PuddleClaims().order(1, 0), PuddleClaims.NONE);
        Due.due("none of nobody", new PuddleClaims().order(1, -1), 0);
    }

    private static void theOrderBehindSomeHours() {
        PuddleClaims x = Due.street("w140,p210,p28;1,2@9/4,2@9/8");
        x.hours(1);
        // It is hour 1: whoever comes first sees 8 and 6; all who have claimed are counted.
        Due.due("how many of all", x.order(9, -1), 3);
        Due.due("first", x.order(9, 0), 2);
        Due.due("second", x.order(9, 1), 1);
        Due.due("he who has claimed is not in it", x.order(9, 2), PuddleClaims.NONE);
        x.hours(30);
        x.rain(10);
        Due.due("far above hour 20", x.order(2, -1), 3);
        Due.due("first", x.order(2, 0), 1);
    }

    private static void theLeastRain() {
        Due.due("nobody", new PuddleClaims().wet(1), 0);
        Due.due("no puddle of it", Due.street("p260;1").wet(30), PuddleClaims.NONE);
        PuddleClaims x = Due.street("p19,p12;1@2/7,1@1/3");
        // In hour 1 the deeper one is claimed; by hour 2 the other has lost 4, and 7 are needed.
        Due.due("by so much", x.wet(3), 9);
        Due.due("for good", x.wet(30), 9);
        Due.due("he does not come in 2 hours", x.wet(2), PuddleClaims.NONE);
        Due.due("not even one more", Due.street("s00;0@20/30").wet(30), 50);
        Due.due("it is 60 at most", Due.street("p060;0@20/30").wet(30), PuddleClaims.NONE);
        Due.due("all there is", Due.street("p00;0@15/30").wet(30), 60);
        int[] bad = {0, -1, 31, LOW, HIGH};
        for (int n : bad) {
            Due.due("bad wet", x.wet(n), PuddleClaims.BAD);
        }
        x.hours(3);
        Due.due("one has claimed, the other needs 7 of 0", x.wet(1), 7);
    }

    private static void whichMatters() {
        PuddleClaims x = Due.street("p19,p29,p29;1,2,2,1");
        Due.due("the one that only one can have", x.matters(3, 0), 0);
        Due.due("how many then", x.matters(3, 1), 2);
        PuddleClaims two = Due.street("p15,p29;2,2/9");
        Due.due("which", two.matters(1, 0), 1);
        Due.due("none then", two.matters(1, 1), 0);
        // A dry neighbour makes a grate lose more.
        PuddleClaims grate = Due.street("p70,p39,g19,p29;1@1/4,2,3");
        Due.due("which", grate.matters(2, 0), 1);
        Due.due("he and another go without", grate.matters(2, 1), 1);
        grate.hours(2);
        Due.due("what is claimed stays so", grate.matters(2, 1), 3);
        Due.due("of like ones the first", grate.matters(2, 0), 0);
        PuddleClaims none = new PuddleClaims();
        Due.due("none", none.matters(1, 0), PuddleClaims.NONE);
        Due.due("none", none.matters(30, 1), PuddleClaims.NONE);
        int[][] bad = {{0, 0}, {31, 0}, {LOW, 0}, {1, -1}, {1, 2}, {1, HIGH}};
        for (int[] b : bad) {
            Due.due("bad matters", x.matters(b[0], b[1]), PuddleClaims.BAD);
            Due.due("bad before none", none.matters(b[0], b[1]), PuddleClaims.BAD);
        }
    }

    private static void whatShouldBeSeen() {
        PuddleClaims x = Due.street("p09,p59;5,7,3@2");
        Due.due("what somebody lost, the first", x.sight(0, 5, 0), 3);
        Due.due("how many", x.sight(0, 5, 1), 2);
        Due.due("who comes in time", x.sight(0, 2, 0), 7);
        Due.due("how many", x.sight(0, 2, 1), 2);
        Due.due("of like ones the first", x.sight(1, 2, 0), 5);
        Due.due("how many", x.sight(1, 2, 1), 1);
        Due.due("nobody lost anything", Due.street("p39").sight(0, 1, 0), 0);
        Due.due("none", Due.street("p39").sight(0, 1, 1), 0);
        int[][] bad = {{2, 1, 0}, {-1, 1, 0}, {HIGH, 1, 0}, {0, 0, 0}, {0, 31, 0}, {0, LOW, 0}, {0, 1, 2}, {0, 1, -1}};
        for (int[] b : bad) {
            Due.due("bad sight", x.sight(b[0], b[1], b[2]), PuddleClaims.BAD);
        }
    }

    private static void odds(String street, int q, int c, int above, int below) {
        PuddleClaims x = Due.street(street);
        Due.due(street + " above", x.carts(q, c, 0), above);
        Due.due(street + " below", x.carts(q, c, 1), below);
    }

    private static void theOddsOfCarts() {
        odds("p09;0/9", 0, 3, 7, 10);
        odds("p09;0/9", 0, 0, 1, 1);
        odds("p09;0/9", 0, 10, 0, 1);
        odds("p09;0/9", 0, 5, 1, 2);
        odds("p09;0/4", 0, 10, 1, 1);
        odds("p09;0/5", 0, 10, 0, 1);
        odds("p09;1", 0, 5, 0, 1);
        odds("p09;0@1", 0, 5, 0, 1);
        // Either of two is enough: 1 less 6 of 10 times 6 of 10.
        odds("p09,p09;0/9", 0, 6, 16, 25);
        // The second goes without if only one is deep enough, or none.
        odds("p09,p09;0/9,0/9", 1, 6, 4, 25);
        // The first takes the deeper one, whichever it is, and leaves the other.
        odds("p09,p08;0,0/8", 1, 5, 1, 4);
        odds("p060,p060,p060,p060,p060,p060,p060;0,0,0,0,0,0/30", 5, 1, 1, 1);
        odds("p030,p030,p030,p030,p030,p030,p030;0/30", 0, 9, 5217031, 10000000);
        odds("p030,p00;0/30", 0, 9, 1, 10);
        PuddleClaims x = Due.street("p09;0/9");
        x.hours(1);
        Due.due("he has claimed", x.carts(0, 10, 0), 1);
        int[][] bad = {{1, 0, 0}, {-1, 0, 0}, {HIGH, 0, 0}, {0, -1, 0}, {0, 11, 0}, {0, LOW, 0}, {0, 0, 2}, {0, 0, -1}};
        for (int[] b : bad) {
            Due.due("bad carts", x.carts(b[0], b[1], b[2]), PuddleClaims.BAD);
        }
    }

    private static void nothingIsChanged() {
        PuddleClaims x = Due.street("p19,k130,g212;1@2,1,2@9/4");
        x.seed(9);
        x.hours(1);
        x.sheet(0, 0, 24);
        int[] before = told(x);
        x.ahead(1, 40);
        x.claims(0, 40);
        x.then(40);
        x.served(2);
        x.dries(1);
        x.match();
        x.latest(0);
        x.order(9, 0);
        x.wet(9);
        x.matters(9, 0);
        x.sight(1, 9, 0);
        x.carts(0, 5, 0);
        x.image();
        x.film(1, 8, 0, 0, 0);
        x.dipped(1, 0, 0, 0, 8, 0);
        x.dipped(1, 0, 0, 0, 8, 1);
        int[] behind = told(x);
        for (int k = 0; k < before.length; k++) {
            Due.due("foretelling changes nothing, " + k, behind[k], before[k]);
        }
        Due.due("nor the draw", x.seed(9), 9);
    }

    private static int[] told(PuddleClaims x) {
        int[] all = new int[8 + 15 + 15];
        for (int k = 0; k < 8; k++) {
            all[k] = x.count(k);
        }
        for (int k = 0; k < 15; k++) {
            all[8 + k] = x.of(k / 5, k % 5);
            all[23 + k] = x.at(k / 5, k % 5);
        }
        return all;
    }
}
