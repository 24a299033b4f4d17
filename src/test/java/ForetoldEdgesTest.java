/** The edges of what is foretold, promises 18 to 29, sentence by sentence. */
public final class ForetoldEdgesTest {
    private static final int HIGH = Integer.MAX_VALUE;
    private static final int BAD = PuddleClaims.BAD, NONE = PuddleClaims.NONE;

    public static void main(String[] args) {
        behindSoManyHours();
        served();
        dries();
        match();
        latest();
        latestFromNow();
        order();
        theFirstOrder();
        orderOfSome();
        wet();
        matters();
        mattersWithoutAny();
        sight();
        carts();
        theFractions();
        aboveTheLastHour();
        Due.finish();
    }

    private static void behindSoManyHours() {
        Due.says("behind n HOURS (0 .. 40) how DEEP a PUDDLE is");
        PuddleClaims x = Due.street("s060,w060,p060,k060,p00,s040,s041");
        int[] now = {60, 60, 60, 60, 0, 40, 41};
        int[] next = {59, 60, 58, 56, 0, 39, 40};
        int[] last = {20, 60, 0, 0, 0, 0, 1};
        for (int p = 0; p < 7; p++) {
            Due.due("ahead(" + p + ", 0)", x.ahead(p, 0), now[p]);
            Due.due("ahead(" + p + ", 1)", x.ahead(p, 1), next[p]);
            Due.due("ahead(" + p + ", 40)", x.ahead(p, 40), last[p]);
        }
        Due.due("ahead(5, 39)", x.ahead(5, 39), 1);
        Due.says("behind n HOURS (0 .. 40) .. what one has CLAIMED; who has CLAIMED something (a set)");
        PuddleClaims late = Due.street("w160,w060;0@20,1");
        int[][] due = {{0, NONE, 0}, {1, NONE, 2}, {20, NONE, 2}, {21, 1, 3}, {40, 1, 3}};
        for (int[] d : due) {
            Due.due("claims(0, " + d[0] + ")", late.claims(0, d[0]), d[1]);
            Due.due("then(" + d[0] + ")", late.then(d[0]), d[2]);
        }
        Due.due("claims(1, 1)", late.claims(1, 1), 0);
        late.hours(1);
        Due.due("what is claimed now", late.claims(1, 0), 0);
        Due.due("who has claimed now", late.then(0), 2);
        Due.due("from now", late.then(19), 2);
        Due.due("from now", late.then(20), 3);
        Due.due("nobody", new PuddleClaims().then(40), 0);
        Due.due("six", Due.street("p09,p19,p29,p39,p49,p59;0,1,2,3,4,5").then(1), 63);
    }

    private static void served() {
        Due.says("SERVED of one: the first of 0 to 40 HOURS behind which he has CLAIMED; none.");
        PuddleClaims x = Due.street("w060,w160,w260;0,1@1,2@20,3,0@1");
        int[] due = {1, 2, 21, NONE, NONE};
        for (int q = 0; q < due.length; q++) {
            Due.due("served(" + q + ")", x.served(q), due[q]);
        }
        x.hours(1);
        int[] then = {0, 1, 20, NONE, NONE};
        for (int q = 0; q < then.length; q++) {
            Due.due("an hour later, served(" + q + ")", x.served(q), then[q]);
        }
        Due.due("no puddle at all", onlyPeople(1).served(0), NONE);
        Due.due("not deep enough any more", Due.street("p09;0@4/2").served(0), NONE);
        Due.due("just deep enough", Due.street("p09;0@4/1").served(0), 5);
    }

    private static void dries() {
        Due.says("DRIES of a PUDDLE: the first of 0 to 40 HOURS behind which it is DRY; none.");
        String[] texts = {"p00", "p01", "p02", "p03", "s039", "s040", "s041", "s060", "k060", "k05", "w029", "w030", "g04", "g05"};
        int[] due = {0, 1, 1, 2, 39, 40, NONE, NONE, 20, 2, 29, NONE, 1, 2};
        for (int k = 0; k < texts.length; k++) {
            Due.due(texts[k], Due.street(texts[k]).dries(0), due[k]);
        }
        PuddleClaims x = Due.street("s041,k011");
        x.hours(1);
        Due.due("from now", x.dries(0), 40);
        Due.due("7 deep in an odd hour, then 5, then 1", x.dries(1), 3);
    }

    private static PuddleClaims onlyPeople(int many) {
        PuddleClaims x = new PuddleClaims();
        for (int q = 0; q < many; q++) {
            x.person(0, 0, 1);
        }
        return x;
    }

    private static void match() {
        Due.says("MATCH: how many of those who have CLAIMED none could CLAIM a FIT one now");
        Due.due("nobody, nothing", new PuddleClaims().match(), 0);
        Due.due("nobody", Due.street("p09").match(), 0);
        Due.due("nothing", onlyPeople(6).match(), 0);
        Due.due("as deep as needed", Due.street("p05;0/5").match(), 1);
        Due.due("one less", Due.street("p04;0/5").match(), 0);
        Due.due("another sight", Due.street("p05;1").match(), 0);
        Due.says("all at once, one each (whenever they COME), at most");
        Due.due("two for one", Due.street("p05;0,0").match(), 1);
        Due.due("one for two", Due.street("p05,p05;0").match(), 1);
        Due.due("at 20", Due.street("p05;0@20").match(), 1);
        Due.due("the first had better not take the deepest", Due.street("p09,p05;0,0/9").match(), 2);
        Due.due("six of seven", Due.street("p01,p01,p01,p01,p01,p01,p01;0,0,0,0,0,0").match(), 6);
        Due.due("five for six", Due.street("p01,p01,p01,p01,p01;0,0,0,0,0,0").match(), 5);
        Due.due("the last for the last", Due.street("p00,p00,p00,p00,p00,p00,p71;0,0,0,0,0,7").match(), 1);
        PuddleClaims x = Due.street("w060,w060;0,0@9,0@9");
        x.hours(1);
        Due.due("he who has claimed is out of it, and what he has", x.match(), 1);
        x.send(0);
        Due.due("sent home", x.match(), 2);
    }

    private static void latest() {
        Due.says("LATEST for one: the greatest HOUR (0 .. 20) at which he might COME .. none.");
        Object[][] due = {
            {"p10;1", NONE}, {"p11;1", 0}, {"p12;1", 0}, {"p13;1", 1}, {"p140;1", 19}, {"p141;1", 20}, {"p160;1", 20},
            {"p120;1/4", 8}, {"p120;1/5", 7}, {"p120;1/20", 0}, {"p120;1/21", NONE}, {"w130;1/30", 20}, {"p160;2", NONE}};
        for (Object[] d : due) {
            String text = (String) d[0];
            Due.due(text, Due.street(text).latest(0), (Integer) d[1]);
            Due.due(text + ", whenever he comes else", Due.street(text.replace(";1", ";1@20").replace(";2", ";2@20")).latest(0), (Integer) d[1]);
        }
        Due.due("nothing at all", onlyPeople(1).latest(0), NONE);
        Due.says("so that he has CLAIMED (by numbers at the same HOUR)");
        PuddleClaims two = Due.street("w160;1@7,1@7");
        Due.due("the first may come with the second", two.latest(0), 7);
        Due.due("the second has to come ahead of the first", two.latest(1), 6);
        PuddleClaims atOnce = Due.street("w160;1,1");
        Due.due("the first", atOnce.latest(0), 0);
        Due.due("the second can't come ahead of hour 0", atOnce.latest(1), NONE);
    }

    private static void latestFromNow() {
        Due.says("LATEST .. told now, so that he has CLAIMED behind 40 HOURS");
        PuddleClaims x = Due.street("p120;1@20/4");
        x.hours(3);
        Due.due("14 deep in hour 3, so 4 in hour 8", x.latest(0), 8);
        x.hours(5);
        Due.due("in hour 8", x.latest(0), 8);
        x.hours(1);
        Due.due("2 deep in hour 9", x.latest(0), NONE);
        PuddleClaims far = Due.street("w020;0/30");
        far.hours(25);
        Due.due("dry", far.latest(0), NONE);
        far.rain(30);
        Due.due("each of them is before hour 25", far.latest(0), 20);
        far.hours(1);
        far.drive(0);
        Due.due("he has claimed", far.latest(0), 20);
    }

    private static void order(PuddleClaims x, int n, int many, int... who) {
        Due.due("order(" + n + ", -1)", x.order(n, -1), many);
        for (int k = 0; k < who.length; k++) {
            Due.due("order(" + n + ", " + k + ")", x.order(n, k), who[k]);
        }
        Due.due("not so many: order(" + n + ", " + who.length + ")", x.order(n, who.length), NONE);
        Due.due("not so many: order(" + n + ", HIGH)", x.order(n, HIGH), NONE);
    }

    private static void order() {
        Due.says("ORDER: how many (k -1), the k-th (NONE: not so many) .. the k-th COMING at the HOUR that it is now and k");
        PuddleClaims six = Due.street("w060,w160,w260,w360,w460,w560;0@20,1@20,2@20,3@20,4@20,5@20");
        order(six, 1, 1, 0, 1, 2, 3, 4, 5);
        order(six, 2, 2, 0, 1, 2, 3, 4, 5);
        order(six, 5, 5, 0, 1, 2, 3, 4, 5);
        order(six, 6, 6, 0, 1, 2, 3, 4, 5);
        order(six, 7, 6, 0, 1, 2, 3, 4, 5);
        order(six, 30, 6, 0, 1, 2, 3, 4, 5);
        Due.says("the order by which most of all have CLAIMED behind them");
        PuddleClaims backward = Due.street("p06,p16,p26;0/2,1/4,2/6");
        order(backward, 3, 3, 2, 1, 0);
        order(backward, 30, 3, 2, 1, 0);
        order(backward, 2, 2, 0, 1, 2);
        order(backward, 1, 1, 0, 1, 2);
        PuddleClaims sixBackward = Due.street("p011,p111,p211,p311,p411,p511;0,1/3,2/5,3/7,4/9,5/11");
        order(sixBackward, 6, 6, 5, 4, 3, 2, 1, 0);
        // Somebody has to go without in 5 hours: by numbers it had better be the last, and the first has his whenever he comes.
        order(sixBackward, 5, 5, 0, 4, 3, 2, 1, 5);
        order(new PuddleClaims(), 1, 0);
        order(Due.street("p09"), 30, 0);
        order(onlyPeople(2), 30, 0, 0, 1);
        order(Due.street("w160,w060;0,0"), 30, 1, 0, 1);
        order(Due.street("w160,w160,w160,w160,w160,w160,w060;0,0,0"), 30, 1, 0, 1, 2);
        order(Due.street("w050,w060,w040;0,0,0,0"), 30, 3, 0, 1, 2, 3);
    }

    private static void theFirstOrder() {
        Due.says("of like ones the first (by numbers, rising)");
        order(Due.street("p09;0,0,0"), 3, 1, 0, 1, 2);
        order(Due.street("p09;1,0,1"), 3, 1, 0, 1, 2);
        // The third needs what is there now, and the second then; the first has his whenever he comes.
        order(Due.street("w060,p14,p24;0,1/2,2/4"), 3, 3, 2, 1, 0);
        // The second has to be the first; the others may come as they like.
        order(Due.street("w060,p14,w260;0,1/4,2"), 3, 3, 1, 0, 2);
        // One who goes without anyhow is taken as early as the rest allows it.
        order(Due.street("p04,p16;7,0/3,1"), 3, 2, 1, 0, 2);
        order(Due.street("p04,p14;7,0/3,1"), 3, 2, 1, 2, 0);
    }

    private static void orderOfSome() {
        Due.says("ORDER ..: all who have CLAIMED none");
        PuddleClaims x = Due.street("w060,p110,p29;0,1@20/7,2@20/5");
        x.hours(1);
        // Hour 1: 8 and 7 deep; in hour 2 they are 6 and 5.
        order(x, 1, 2, 1, 2);
        order(x, 2, 3, 1, 2);
        x.drive(2);
        order(x, 2, 2, 1, 2);
        x.undo();
        x.send(0);
        order(x, 3, 3, 1, 2, 0);
        Due.says("ORDER .. at the HOUR that it is now and k (above 20 too)");
        PuddleClaims late = Due.street("w060,w160;0@20,1@20");
        late.hours(19);
        order(late, 2, 2, 0, 1);
        PuddleClaims later = Due.street("w00,w10;0,1");
        later.hours(39);
        later.rain(60);
        order(later, 1, 1, 0, 1);
        order(later, 2, 2, 0, 1);
        PuddleClaims all = Due.street("w060,w160;0,1");
        all.hours(1);
        order(all, 1, 2);
    }

    private static void wet() {
        Due.says("WET for n HOURS (1 .. 30): the least RAIN (0 .. 60) now by which all have CLAIMED behind them; none.");
        Object[][] due = {
            {"p00;0/30", 1, 30}, {"p01;0/30", 1, 29}, {"p029;0/30", 1, 1}, {"p030;0/30", 1, 0}, {"p060;0/30", 1, 0},
            {"p00;0@15/30", 16, 60}, {"p00;0@15/30", 15, NONE}, {"p00;0@15/30", 30, 60}, {"p00;0@16/30", 17, NONE},
            {"p060;0@15/30", 16, 0}, {"p060;0@16/30", 17, NONE}, {"p00;0@16/28", 17, 60},
            {"s00;0@20/30", 21, 50}, {"s00;0@20/30", 20, NONE}, {"s00;0@20/30", 30, 50}, {"w00;0@20/30", 30, 30},
            {"p00,p10;0,1", 1, 1}, {"p00,p10;0/3,1/9", 1, 9}, {"p00;0,0", 30, NONE}, {"p060;1", 30, NONE}, {"p00", 1, 0}};
        for (Object[] d : due) {
            Due.due(d[0] + " wet(" + d[1] + ")", Due.street((String) d[0]).wet((Integer) d[1]), (Integer) d[2]);
        }
        Due.due("nobody", new PuddleClaims().wet(1), 0);
        Due.due("nothing", onlyPeople(1).wet(30), NONE);
        PuddleClaims x = Due.street("p09;0");
        x.hours(9);
        Due.due("all have claimed, though it is dry", x.wet(1), 0);
        x.send(0);
        Due.due("sent home", x.wet(1), 1);
    }

    private static void matters(String text, int n, int which, int many) {
        PuddleClaims x = Due.street(text);
        Due.due(text + " matters(" + n + ", 0)", x.matters(n, 0), which);
        Due.due(text + " matters(" + n + ", 1)", x.matters(n, 1), many);
    }

    private static void matters() {
        Due.says("MATTERS for n HOURS (1 .. 30): the PUDDLE without which (DRY from now on) fewest have CLAIMED");
        matters("p09;0", 1, 0, 0);
        matters("p05,p19;1", 1, 1, 0);
        matters("p09,p09,p09,p09,p09,p09,p79;7", 1, 6, 0);
        matters("p09,p19,p19;0,1,1,1", 1, 0, 2);
        matters("w060,w160;1@20", 21, 1, 0);
        matters("w060,w160;1@20", 30, 1, 0);
        Due.says("MATTERS .. of like ones the first; how many");
        matters("p09", 1, 0, 0);
        matters("p09,p09", 30, 0, 0);
        matters("p19,p29;1,2", 1, 0, 1);
        matters("p39,p19,p29;1,2", 1, 1, 1);
        matters("p19,p19;1", 1, 0, 1);
        matters("w060,w160;1@20", 20, 0, 0);
        matters("p00;1", 1, 0, 0);
        Due.says("(DRY from now on: also next to a GRATE)");
        // Dry, the first one takes 2 more from the grate, which is 10 less 6 then, and 5 are needed.
        matters("p59,g110,p79;1@1/5", 2, 0, 0);
        matters("p59,p09,g110,p79;1@1/6", 2, 1, 0);
        Due.says("(what is CLAIMED stays so)");
        PuddleClaims x = Due.street("p19,p29;1,2@1");
        x.hours(1);
        Due.due("the second", x.matters(1, 0), 1);
        Due.due("the first has his", x.matters(1, 1), 1);
    }

    private static void mattersWithoutAny() {
        Due.says("MATTERS ..; none: there are none.");
        for (int n = 1; n <= 30; n += 29) {
            Due.due("none", new PuddleClaims().matters(n, 0), NONE);
            Due.due("none", new PuddleClaims().matters(n, 1), NONE);
            Due.due("people alone", onlyPeople(3).matters(n, 0), NONE);
            Due.due("people alone", onlyPeople(3).matters(n, 1), NONE);
        }
        Due.due("bad all the same", new PuddleClaims().matters(0, 0), BAD);
        Due.due("bad all the same", new PuddleClaims().matters(1, 2), BAD);
    }

    private static void sight(String text, int puddle, int n, int which, int many) {
        PuddleClaims x = Due.street(text);
        Due.due(text + " sight(" + puddle + ", " + n + ", 0)", x.sight(puddle, n, 0), which);
        Due.due(text + " sight(" + puddle + ", " + n + ", 1)", x.sight(puddle, n, 1), many);
    }

    private static void sight() {
        Due.says("SIGHT for a PUDDLE, n HOURS (1 .. 30): what it should SHOW (0 .. 7) so that most have CLAIMED");
        sight("p39;7", 0, 1, 7, 1);
        sight("p39;0", 0, 1, 0, 1);
        sight("p39,p39;3,3", 0, 1, 3, 2);
        sight("p39,p39;3,3", 1, 1, 3, 2);
        sight("p09,p09,p09,p09,p09,p09,p09;7", 6, 1, 7, 1);
        sight("w460;6@20", 0, 21, 6, 1);
        sight("w460;6@20", 0, 30, 6, 1);
        sight("w460;6@20", 0, 20, 0, 0);
        Due.says("SIGHT .. of like ones the first; how many");
        sight("p39", 0, 1, 0, 0);
        sight("p59;2,6", 0, 1, 2, 1);
        sight("p69;2,6", 0, 1, 2, 1);
        sight("p00;5", 0, 30, 0, 0);
        sight("p75;7/6", 0, 1, 0, 0);
        sight("p35,p49;4", 0, 1, 0, 1);
    }

    private static void odds(String text, int q, int c, int above, int below) {
        PuddleClaims x = Due.street(text);
        Due.due(text + " carts(" + q + ", " + c + ", 0)", x.carts(q, c, 0), above);
        Due.due(text + " carts(" + q + ", " + c + ", 1)", x.carts(q, c, 1), below);
    }

    private static void carts() {
        Due.says("CARTS by c of 10 (0 .. 10): ahead of this HOUR each PUDDLE that is not DRY is DRIVEN through");
        odds("p059;0/30", 0, 0, 1, 1);
        odds("p059;0/30", 0, 1, 9, 10);
        odds("p059;0/30", 0, 9, 1, 10);
        odds("p059;0/30", 0, 10, 0, 1);
        odds("p060;0/30", 0, 10, 1, 1);
        odds("p01;0", 0, 0, 1, 1);
        odds("p01;0", 0, 3, 7, 10);
        odds("p01;0", 0, 10, 0, 1);
        odds("p02;0", 0, 10, 1, 1);
        odds("p00;0", 0, 5, 0, 1);
        odds("p01,p00;0", 0, 3, 7, 10);
        odds("p00,p01,p00;0", 0, 10, 0, 1);
        Due.says("CARTS .. how likely a told one has CLAIMED something behind it");
        odds("p09;1", 0, 5, 0, 1);
        odds("w060;0@1", 0, 5, 0, 1);
        odds("w060;0@0", 0, 5, 1, 1);
        odds("p01;0,0", 1, 0, 0, 1);
        // Driven through, each of them is dry: the second has one only if neither is.
        odds("p01,p01;0,0", 1, 5, 1, 4);
        odds("p01,p01;0,0", 0, 5, 3, 4);
        PuddleClaims nothing = onlyPeople(1);
        Due.due("without any, above", nothing.carts(0, 5, 0), 0);
        Due.due("without any, below", nothing.carts(0, 5, 1), 1);
        PuddleClaims x = Due.street("p01;0");
        x.hours(1);
        Due.due("he has it, above", x.carts(0, 10, 0), 1);
        Due.due("he has it, below", x.carts(0, 10, 1), 1);
    }

    private static void theFractions() {
        Due.says("a fraction in lowest terms");
        int[][] due = {{0, 1, 1}, {1, 9, 10}, {2, 4, 5}, {3, 7, 10}, {4, 3, 5}, {5, 1, 2}, {6, 2, 5}, {7, 3, 10}, {8, 1, 5}, {9, 1, 10}, {10, 0, 1}};
        for (int[] d : due) {
            odds("p01;0", 0, d[0], d[1], d[2]);
        }
        Due.says("CARTS .. apart");
        String seven = "p01,p01,p01,p01,p01,p01,p01;0,0,0,0,0,0";
        // Any of seven: 1 less 9 of 10 to the seventh, and so on.
        odds(seven, 0, 9, 5217031, 10000000);
        odds(seven, 0, 1, 9999999, 10000000);
        odds(seven, 0, 5, 127, 128);
        // The sixth has one if at least six are left: seven times 9 to the sixth and 9 to the seventh, which is
        // 16 times 9 to the sixth, of 10 to the seventh.
        odds(seven, 5, 1, 531441, 625000);
        odds(seven, 5, 5, 1, 16);
        odds(seven, 5, 10, 0, 1);
        odds(seven, 5, 0, 1, 1);
    }

    private static void aboveTheLastHour() {
        Due.says("FORETOLD from now (above HOUR 9999 too: FULL is of HOURS that are done)");
        PuddleClaims x = new PuddleClaims();
        x.puddle(2, 0, 0);
        for (int k = 0; k < 249; k++) {
            x.hours(40);
        }
        x.hours(39);
        x.rain(60);
        x.person(0, 20, 30);
        Due.due("in hour 9999, of an odd number", x.ahead(0, 1), 58);
        Due.due("in hour 10000, of an even number", x.ahead(0, 2), 54);
        Due.due("then", x.then(40), 1);
        Due.due("served", x.served(0), 1);
        Due.due("dries, by 6 in two hours", x.dries(0), 20);
        Due.due("latest", x.latest(0), 20);
        Due.due("order", x.order(30, -1), 1);
        Due.due("order", x.order(30, 0), 0);
        Due.due("wet", x.wet(30), 0);
        Due.due("matters", x.matters(30, 1), 0);
        Due.due("sight", x.sight(0, 30, 1), 1);
    }
}
