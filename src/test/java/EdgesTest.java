/**
 * The sentences of the document's first part that name an edge, one after the other: rows, kinds, what is
 * fit, an hour, rain, carts; and what promises 1 to 17 say at the ends of their ranges.
 */
public final class EdgesTest {
    private static final int HIGH = Integer.MAX_VALUE;
    private static final int BAD = PuddleClaims.BAD, NOT = PuddleClaims.NOT, NONE = PuddleClaims.NONE;

    public static void main(String[] args) {
        theCalls();
        aNewObject();
        numbersAsTheyCome();
        theEndsOfAPuddlesNumbers();
        theEndsOfAPersonsNumbers();
        theRow();
        plainAndShady();
        theKerb();
        theWell();
        theGrate();
        zeroAtLeast();
        whatIsFit();
        whoClaims();
        whatIsClaimed();
        sixtyAtMost();
        whatIsDividedIsCut();
        setsAreBits();
        sentHome();
        later();
        showing();
        Due.finish();
    }

    private static void theCalls() {
        Due.says("An object is used for at most 512 calls after it has been made");
        PuddleClaims x = new PuddleClaims();
        x.puddle(3, 0, 60);
        for (int k = 2; k < 512; k++) {
            Due.due("call " + k, x.hours(1), 0);
        }
        Due.due("call 512", x.count(2), 510);
        PuddleClaims typed = new PuddleClaims();
        for (int k = 0; k < 5; k++) {
            for (int letter = 0; letter < 90; letter++) {
                typed.type(' ');
            }
            Due.due("a read of ninety blanks", typed.read(), -110);
        }
        for (int k = 0; k < 56; k++) {
            typed.type(k < 53 ? ' ' : "s43".charAt(k - 53));
        }
        Due.due("call 512", typed.read(), 1);
    }

    private static void aNewObject() {
        Due.says("A dry street, nobody.");
        PuddleClaims x = new PuddleClaims();
        for (int what = 0; what <= 7; what++) {
            Due.due("count " + what, x.count(what), 0);
        }
        Due.says("It is HOUR 0 at first.");
        Due.due("the hour", x.count(2), 0);
        Due.says("THE DRAW is a number of 31 bits (1 at first)");
        Due.due("seed", x.seed(9), 1);
        Due.says("nothing (at first)");
        for (int sheet = 0; sheet <= 3; sheet++) {
            Due.due("drop", x.drop(sheet), PuddleClaims.NULL);
        }
        Due.says("THE TAPE (empty at first)");
        Due.due("one letter", x.type('p'), 1);
        Due.says("NONE: there is none. (no IMAGE at first)");
        Due.due("restore", x.restore(), NONE);
        Due.says("A dry street, nobody. (two objects have nothing in common)");
        PuddleClaims one = Due.street("p19;1");
        one.hours(1);
        one.sheet(0, 0, 1);
        one.image();
        PuddleClaims other = new PuddleClaims();
        Due.due("puddles", other.count(0), 0);
        Due.due("drop", other.drop(0), PuddleClaims.NULL);
        Due.due("restore", other.restore(), NONE);
        Due.due("undo", other.undo(), NONE);
    }

    private static void numbersAsTheyCome() {
        Due.says("PUDDLES 0 .. 6, as they come");
        PuddleClaims x = new PuddleClaims();
        for (int p = 0; p <= 6; p++) {
            Due.due("there is none yet", x.of(p, 0), BAD);
            Due.due("puddle", x.puddle(0, p, 2 * p), p);
            Due.due("its sight", x.of(p, 1), p);
            Due.due("nobody has it", x.of(p, 3), NONE);
        }
        Due.says("PEOPLE 0 .. 5, as they come");
        for (int q = 0; q <= 5; q++) {
            Due.due("there is none yet", x.at(q, 0), BAD);
            Due.due("person", x.person(7 - q, q, 1), q);
            Due.due("what he lost", x.at(q, 0), 7 - q);
            Due.says("they have CLAIMED a PUDDLE, or none (at first)");
            Due.due("claimed", x.at(q, 3), NONE);
        }
    }

    private static void theEndsOfAPuddlesNumbers() {
        Due.says("are of a KIND, DEEP by 0 .. 60, SHOW a SIGHT (0 .. 7)");
        int[][] ends = {{0, 0, 0}, {4, 0, 0}, {0, 7, 0}, {0, 0, 60}, {4, 7, 60}, {3, 6, 59}, {1, 1, 1}};
        PuddleClaims x = new PuddleClaims();
        for (int p = 0; p < ends.length; p++) {
            Due.due("puddle", x.puddle(ends[p][0], ends[p][1], ends[p][2]), p);
            for (int what = 0; what < 3; what++) {
                Due.due("of(" + p + ", " + what + ")", x.of(p, what), ends[p][what]);
            }
        }
    }

    private static void theEndsOfAPersonsNumbers() {
        Due.says("LOST a SIGHT (0 .. 7), COME at an HOUR (0 .. 20), NEED 1 .. 30");
        int[][] ends = {{0, 0, 1}, {7, 0, 1}, {0, 20, 1}, {0, 0, 30}, {7, 20, 30}, {6, 19, 29}};
        PuddleClaims x = new PuddleClaims();
        for (int q = 0; q < ends.length; q++) {
            Due.due("person", x.person(ends[q][0], ends[q][1], ends[q][2]), q);
            for (int what = 0; what < 3; what++) {
                Due.due("at(" + q + ", " + what + ")", x.at(q, what), ends[q][what]);
            }
        }
    }

    private static void theRow() {
        Due.says("lie in a row (next to one another by numbers)");
        Due.due("the first is not next to the last", Due.street("g09,p09,p09,p09,p09,p09,p00").of(0, 4), 4);
        Due.due("the last is not next to the first", Due.street("p00,p09,p09,p09,p09,p09,g09").of(6, 4), 4);
        Due.due("the first is next to the second", Due.street("g09,p00,p09,p09,p09,p09,p09").of(0, 4), 6);
        Due.due("the last is next to the last but one", Due.street("p09,p09,p09,p09,p09,p00,g09").of(6, 4), 6);
        Due.due("not the next but one", Due.street("p00,p09,g09,p09,p00").of(2, 4), 4);
        PuddleClaims x = Due.street("g09");
        Due.due("where nothing lies, nothing is dry", x.of(0, 4), 4);
        x.puddle(0, 0, 0);
        Due.due("a dry one has come", x.of(0, 4), 6);
        Due.morning(x, "g09");
        Due.due("a morning without it", x.of(0, 4), 4);
    }

    /** How deep a puddle is behind each of some hours, from hour 0 on. */
    private static void course(String text, int puddle, int... due) {
        PuddleClaims x = Due.street(text);
        for (int k = 0; k < due.length; k++) {
            Due.due(text + ": " + puddle + " ahead of hour " + k, x.of(puddle, 2), due[k]);
            x.hours(1);
        }
    }

    private static void plainAndShady() {
        Due.says("0 PLAIN: 2.");
        course("p07", 0, 7, 5, 3, 1, 0, 0);
        course("p060", 0, 60, 58, 56);
        Due.says("1 SHADY: half of that.");
        course("s03", 0, 3, 2, 1, 0, 0);
        course("s060", 0, 60, 59, 58);
    }

    private static void theKerb() {
        Due.says("2 KERB (below PLAIN): twice as much in HOURS of an even number, else as PLAIN.");
        course("k020", 0, 20, 16, 14, 10, 8, 4, 2, 0, 0);
        PuddleClaims x = Due.street("k060");
        for (int hour = 0; hour < 6; hour++) {
            Due.due("in hour " + hour, x.of(0, 4), hour % 2 == 0 ? 4 : 2);
            x.hours(1);
        }
    }

    private static void theWell() {
        Due.says("3 WELL (below SHADY): as SHADY; nothing, if it is DEEP by 30 or more.");
        course("w060", 0, 60, 60, 60);
        course("w031", 0, 31, 31, 31);
        course("w030", 0, 30, 30, 30);
        course("w029", 0, 29, 28, 27);
        course("w01", 0, 1, 0, 0);
        int[][] loss = {{0, 1}, {1, 1}, {29, 1}, {30, 0}, {31, 0}, {60, 0}};
        for (int[] l : loss) {
            Due.due("by this hour, of " + l[0], Due.street("w0" + l[0]).of(0, 4), l[1]);
        }
        PuddleClaims x = Due.street("w029");
        x.rain(1);
        x.hours(40);
        Due.due("rained on up to 30, it stays", x.of(0, 2), 30);
        x.drive(0);
        x.hours(1);
        Due.due("driven through, it does not", x.of(0, 2), 14);
        PuddleClaims half = Due.street("w060,w059");
        half.drive(0);
        half.drive(1);
        half.hours(2);
        Due.due("half of 60 stays", half.of(0, 2), 30);
        Due.due("half of 59 does not", half.of(1, 2), 27);
    }

    private static void theGrate() {
        Due.says("4 GRATE (below KERB): as KERB; 2 more for each PUDDLE next to it that is DRY (DEEP by 0).");
        int[][] loss = {{0, 0, 8}, {0, 1, 6}, {1, 0, 6}, {1, 1, 4}};
        for (int[] l : loss) {
            PuddleClaims x = Due.street("w0" + l[0] + ",g050,w0" + l[1]);
            Due.due("in an even hour by " + l[0] + " and " + l[1], x.of(1, 4), l[2]);
        }
        PuddleClaims odd = Due.street("w060,g050,w060");
        odd.hours(1);
        Due.due("in an odd hour", odd.of(1, 4), 2);
        PuddleClaims both = Due.street("p00,g050,p00");
        both.hours(1);
        Due.due("in an odd hour by two", both.of(1, 4), 6);
        Due.due("it was 8 deeper", both.of(1, 2), 42);
        Due.due("it is not next to itself", Due.street("g00").of(0, 4), 4);
        Due.due("a grate next to a dry grate", Due.street("g00,g09").of(1, 4), 6);
        Due.due("no other kind looks at what is next to it", Due.street("p00,k050,p00").of(1, 4), 4);
        Due.says("Then all PUDDLES are less DEEP, by how all is ahead of it");
        course("p02,g030,s01", 1, 30, 26, 20, 12);
        course("g04,g09", 1, 9, 5, 1, 0);
        course("g09,g04", 0, 9, 5, 1, 0);
    }

    private static void zeroAtLeast() {
        Due.says("(0 at least)");
        course("p01", 0, 1, 0, 0);
        course("k03", 0, 3, 0, 0);
        course("k05", 0, 5, 1, 0, 0);
        course("g07,p00", 0, 7, 1, 0, 0);
        course("p00,g07,p00", 1, 7, 0, 0);
        course("p00", 0, 0, 0);
        Due.says("by how much it is less DEEP by this HOUR (at most so much)");
        Due.due("of 1", Due.street("p01").of(0, 4), 2);
        Due.due("of 0", Due.street("p00").of(0, 4), 2);
        Due.due("of a dry well", Due.street("w00").of(0, 4), 1);
        Due.due("of a dry kerb", Due.street("k00").of(0, 4), 4);
    }

    private static void whatIsFit() {
        Due.says("FIT for one is a PUDDLE that SHOWS what he LOST");
        Due.due("7 and 0", Due.street("p79,p09;7,0").at(0, 4), 1);
        Due.due("0 and 7", Due.street("p79,p09;7,0").at(1, 4), 2);
        Due.due("neither", Due.street("p79,p09;6").at(0, 4), 0);
        Due.says("is DEEP by as much as he NEEDS, or more");
        Due.due("1 of 0, 1, 2", Due.street("p00,p01,p02;0/1").at(0, 4), 6);
        Due.due("30 of 29, 30, 31, 60", Due.street("p029,p030,p031,p060;0/30").at(0, 4), 14);
        Due.says("and that nobody has CLAIMED");
        PuddleClaims x = Due.street("p09,p08,p07;0,0@5,0@6");
        x.hours(1);
        Due.due("what he has himself is not fit for him any more", x.at(0, 4), 6);
        Due.due("nor for another", x.at(1, 4), 6);
        Due.says("(whenever he COMES: PUDDLES that are FIT now)");
        Due.due("all three", Due.street("p09,p08,p07;0@20").at(0, 4), 7);
    }

    private static void whoClaims() {
        Due.says("who COME at this HOUR or before");
        PuddleClaims x = Due.street("w060,w160,w260;0,1@1,2@2");
        Due.due("behind hour 0", x.hours(1), 1);
        Due.due("behind hour 1", x.hours(1), 3);
        Due.due("behind hour 2", x.hours(1), 7);
        PuddleClaims late = Due.street("w060;0@20");
        Due.due("behind hour 19", late.hours(20), 0);
        Due.due("behind hour 20", late.hours(1), 1);
        PuddleClaims before = Due.street("w00;0");
        before.hours(30);
        before.rain(1);
        Due.due("he came long before", before.hours(1), 1);
        Due.says("PEOPLE, rising");
        PuddleClaims rising = Due.street("p09;0,0");
        rising.hours(1);
        Due.due("the first has it", rising.of(0, 3), 0);
        Due.due("the second has none", rising.at(1, 3), NONE);
        PuddleClaims greedy = Due.street("p09,p05;0/1,0/9");
        Due.due("the first takes the deeper one, though the second needs it", greedy.hours(1), 1);
        Due.due("it", greedy.at(0, 3), 0);
        PuddleClaims came = Due.street("p09;0@1,0@0");
        came.hours(2);
        Due.due("who came at an hour before has it, whatever his number", came.of(0, 3), 1);
        Due.says("and have CLAIMED none");
        PuddleClaims one = Due.street("p09,p05;0");
        one.hours(1);
        one.rain(30);
        one.hours(1);
        Due.due("one each", one.count(6), 1);
        Due.due("he keeps what he has", one.at(0, 3), 0);
    }

    private static void whatIsClaimed() {
        Due.says("the FIT one that is DEEPEST by then");
        PuddleClaims deepest = Due.street("p08,p09,p010,p09;0,0,0,0,0");
        Due.due("four of five", deepest.hours(1), 15);
        int[] due = {2, 1, 3, 0, NONE};
        for (int q = 0; q < due.length; q++) {
            Due.due("claimed by " + q, deepest.at(q, 3), due[q]);
        }
        PuddleClaims byThen = Due.street("k020,s018;0@2");
        byThen.hours(3);
        Due.due("by then the other is deeper", byThen.at(0, 3), 1);
        Due.says("of like ones the first");
        PuddleClaims like = Due.street("p19,p09,p09,p09,p09,p09,p09;0");
        like.hours(1);
        Due.due("of six", like.at(0, 3), 1);
        Due.says("if there is one");
        PuddleClaims none = Due.street("p04,p19;0/5,2");
        Due.due("nobody", none.hours(1), 0);
        Due.due("not deep enough", none.at(0, 3), NONE);
        Due.due("not seen anywhere", none.at(1, 3), NONE);
        Due.due("nor is any claimed", none.count(6), 0);
        Due.due("nobody of nobody", Due.street("p09").hours(1), 0);
        PuddleClaims nothing = new PuddleClaims();
        nothing.person(0, 0, 1);
        Due.due("nothing at all", nothing.hours(1), 0);
        Due.says("Then all PUDDLES are less DEEP");
        Due.due("a claim is made ahead of that", Due.street("p01;0").hours(1), 1);
        Due.due("as deep as needed", Due.street("p030;0/30").hours(1), 1);
        Due.due("one less", Due.street("p029;0/30").hours(1), 0);
        PuddleClaims dry = Due.street("p01;0");
        dry.hours(9);
        Due.due("what has dried is his still", dry.at(0, 3), 0);
        Due.says("It is the next HOUR.");
        Due.due("nine", dry.count(2), 9);
    }

    private static void sixtyAtMost() {
        Due.says("RAINED: all PUDDLES are DEEPER by n (60 at most)");
        PuddleClaims x = Due.street("p00,p01,p058,p059,p060");
        Due.due("rain 1", x.rain(1), 1 + 2 + 59 + 60 + 60);
        int[] behind = {1, 2, 59, 60, 60};
        for (int p = 0; p < 5; p++) {
            Due.due("depth of " + p, x.of(p, 2), behind[p]);
        }
        Due.due("rain 58", x.rain(58), 59 + 60 + 60 + 60 + 60);
        Due.due("rain 60", x.rain(60), 300);
        Due.due("and once more", x.rain(60), 300);
        Due.due("each may be undone, though nothing was changed by it", x.count(7), 4);
        Due.due("a dry one", Due.street("p00").rain(60), 60);
        Due.due("59 of 60", Due.street("p00").rain(59), 59);
        Due.due("on none", new PuddleClaims().rain(60), 0);
    }

    private static void whatIsDividedIsCut() {
        Due.says("DRIVEN through: a PUDDLE is DEEP by half. .. What is divided is cut.");
        int[][] halves = {{60, 30}, {59, 29}, {3, 1}, {2, 1}, {1, 0}};
        for (int[] h : halves) {
            PuddleClaims x = Due.street("p0" + h[0] + ",p09");
            Due.due("half of " + h[0], x.drive(0), h[1]);
            Due.due("it is so", x.of(0, 2), h[1]);
            Due.due("the other is as it was", x.of(1, 2), 9);
        }
        Due.says("NOT: it is DRY.");
        PuddleClaims dry = Due.street("p01,p00");
        Due.due("1 deep", dry.drive(0), 0);
        Due.due("dry", dry.drive(0), NOT);
        Due.due("dry", dry.drive(1), NOT);
    }

    private static void setsAreBits() {
        Due.says("Sets are bits.");
        PuddleClaims x = Due.street("p00,p10,p20,p30,p40,p50,p60;0,1,2,3,4,5");
        Due.due("seven that are dry", x.count(4), 127);
        x.rain(1);
        Due.due("none", x.count(4), 0);
        Due.due("six people", x.hours(1), 63);
        Due.due("who has claimed", x.count(5), 63);
        Due.due("what is claimed", x.count(6), 63);
        Due.due("dry again", x.count(4), 127);
        PuddleClaims crossed = Due.street("p60,p59,p49,p39,p29,p19,p09;0,1,2,3,4,5");
        Due.due("six people", crossed.hours(1), 63);
        Due.due("what is claimed", crossed.count(6), 126);
        Due.due("one that is dry", crossed.count(4), 1);
        PuddleClaims one = Due.street("p09,p09,p09,p09,p09,p09,p79;1,1,1,1,1,7");
        Due.due("the last of people", one.hours(1), 32);
        Due.due("has the last puddle", one.count(6), 64);
        Due.due("fit for one", Due.street("p09,p09,p09,p09,p09,p09,p09;0").at(0, 4), 127);
        Due.says("3 how DEEP all are together");
        Due.due("seven times 60", Due.street("p060,s060,k060,w060,g060,p060,p060").count(3), 420);
    }

    private static void sentHome() {
        Due.says("SENT home: one has CLAIMED none any more.");
        PuddleClaims x = Due.street("w060,w130;0,1");
        x.hours(1);
        Due.due("the first", x.send(0), 0);
        Due.due("the last", x.send(1), 1);
        Due.due("nobody has claimed", x.count(5), 0);
        Due.due("nothing is claimed", x.count(6), 0);
        Due.due("nobody has it", x.of(0, 3), NONE);
        Due.due("it is fit again", x.at(0, 4), 1);
        Due.due("and claimed again", x.hours(1), 3);
    }

    private static void later() {
        Due.says("LATER: one COMES at another HOUR. .. (0 .. 20): when it came.");
        PuddleClaims x = Due.street("w060;0@10,0@10");
        Due.due("at 20", x.later(0, 20), 10);
        Due.due("at 0", x.later(0, 0), 20);
        Due.due("it comes then", x.at(0, 1), 0);
        Due.due("the other as before", x.at(1, 1), 10);
        Due.due("it claims", x.hours(1), 1);
        Due.due("who has claimed may be told too", x.later(0, 20), 0);
        Due.due("and keeps it", x.at(0, 3), 0);
    }

    private static void showing() {
        Due.says("A PUDDLE SHOWS another SIGHT (or the same): what it did.");
        PuddleClaims x = Due.street("p39,p49;3");
        x.hours(1);
        Due.due("to 0", x.show(0, 0), 3);
        Due.due("the same", x.show(0, 0), 0);
        Due.due("to 7", x.show(0, 7), 0);
        Due.due("it does", x.of(0, 1), 7);
        Due.due("the other as before", x.of(1, 1), 4);
        Due.due("whoever has it keeps it", x.at(0, 3), 0);
        Due.due("nothing more is to be undone", x.count(7), 1);
        Due.due("no such sight", x.show(0, HIGH), BAD);
    }
}
