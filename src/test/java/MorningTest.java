/** Promises 7 and 8: the tape, and mornings read from it. */
public final class MorningTest {
    public static void main(String[] args) {
        theTape();
        rightTexts();
        faults();
        aMorningIsInPlaceOfAll();
        aFaultLeavesAll();
        Due.finish();
    }

    private static void theTape() {
        PuddleClaims x = new PuddleClaims();
        int[] bad = {31, 127, 0, -1, 10, 255, Integer.MIN_VALUE, Integer.MAX_VALUE};
        for (int letter : bad) {
            Due.due("bad letter", x.type(letter), PuddleClaims.BAD);
        }
        Due.due("the first", x.type(32), 1);
        Due.due("the last kind", x.type(126), 2);
        for (int k = 2; k < 90; k++) {
            Due.due("type", x.type(' '), k + 1);
        }
        Due.due("a 91st", x.type(' '), PuddleClaims.FULL);
        Due.due("a bad 91st", x.type(31), PuddleClaims.BAD);
        Due.due("read", x.read(), -21);
        Due.due("empty behind a fault", x.type('p'), 1);
        x.type('7');
        x.type('9');
        Due.due("read", x.read(), 1);
        Due.due("empty behind a morning", x.type('p'), 1);
        x.read();
        for (int k = 0; k < 90; k++) {
            x.type(' ');
        }
        Due.due("blanks alone", x.read(), -110);
    }

    private static void rightTexts() {
        puddles("p00", 1, 0, 0, 0);
        puddles("s760", 1, 1, 7, 60);
        puddles("k109", 1, 2, 1, 9);
        puddles("  w 2 34", 1, 3, 2, 34);
        puddles("g5 00 ,p11", 2, 4, 5, 0);
        puddles("p00,p00,p00,p00,p00,p00,p00", 7, 0, 0, 0);
        people("p00;0", 1, 0, 0, 1);
        people("p00;7@20", 1, 7, 20, 1);
        people("p00;3/30", 1, 3, 0, 30);
        people("p00;3@09/01", 1, 3, 9, 1);
        people("p00 ; 3 @ 9 / 15 , 2 ", 2, 3, 9, 15);
        people("p00;1@00,1,1,1,1,1/1", 6, 1, 0, 1);
    }

    private static void puddles(String text, int many, int kind, int sight, int deep) {
        PuddleClaims x = new PuddleClaims();
        Due.due(text, Due.morning(x, text), many);
        Due.due(text + ": how many", x.count(0), many);
        Due.due(text + ": nobody", x.count(1), 0);
        Due.due(text + ": kind", x.of(0, 0), kind);
        Due.due(text + ": sight", x.of(0, 1), sight);
        Due.due(text + ": deep", x.of(0, 2), deep);
    }

    private static void people(String text, int many, int lost, int comes, int needs) {
        PuddleClaims x = new PuddleClaims();
        Due.due(text, Due.morning(x, text), 1);
        Due.due(text + ": how many", x.count(1), many);
        Due.due(text + ": lost", x.at(0, 0), lost);
        Due.due(text + ": comes", x.at(0, 1), comes);
        Due.due(text + ": needs", x.at(0, 2), needs);
        Due.due(text + ": claimed", x.at(0, 3), PuddleClaims.NONE);
    }

    private static void faults() {
        fault("", 0);
        fault("   ", 3);
        fault("x", 0);
        fault("P00", 0);
        fault("  x", 2);
        fault("p", 1);
        fault("p  ", 3);
        fault("p8", 1);
        fault("pp", 1);
        fault("p7", 2);
        fault("p7,", 2);
        fault("p7 ;", 3);
        fault("p761", 2);
        fault("p7 99", 3);
        // The number 61 is not as told before a third digit is come to.
        fault("p7610", 2);
        fault("p7600", 4);
        fault("p7000", 4);
        fault("p7 6 0", 5);
        fault("p70x", 3);
        fault("p70 @", 4);
        fault("p70,", 4);
        fault("p70, ", 5);
        fault("p70,,", 4);
        fault("p70,;", 4);
        fault("p00,p00,p00,p00,p00,p00,p00,p00", 27);
        fault("p00;", 4);
        fault("p00; ", 5);
        fault("p00;8", 4);
        fault("p00;p", 4);
        fault("p00;;", 4);
        fault("p00;11", 5);
        fault("p00;1 1", 6);
        fault("p00;1;", 5);
        fault("p00;1,", 6);
        fault("p00;1,p", 6);
        fault("p00;1@", 6);
        fault("p00;1@/", 6);
        fault("p00;1@21", 6);
        fault("p00;1@ 21", 7);
        fault("p00;1@200", 8);
        fault("p00;1@2 0", 8);
        fault("p00;1@2@2", 7);
        fault("p00;1/", 6);
        fault("p00;1/0", 6);
        fault("p00;1/00", 6);
        fault("p00;1/31", 6);
        fault("p00;1/300", 8);
        fault("p00;1/3@2", 7);
        fault("p00;1/3/3", 7);
        fault("p00;1,1,1,1,1,1,1", 15);
    }

    private static void fault(String text, int place) {
        PuddleClaims x = new PuddleClaims();
        Due.due("'" + text + "'", Due.morning(x, text), -20 - place);
        Due.due("'" + text + "' leaves all", x.count(0), 0);
    }

    private static void aMorningIsInPlaceOfAll() {
        PuddleClaims x = Due.street("p19,p29;1,2");
        x.seed(77);
        x.sheet(2, 1, 5);
        x.hours(3);
        x.rain(4);
        x.image();
        Due.due("read", Due.morning(x, "s35"), 1);
        int[] counts = {1, 0, 0, 5, 0, 0, 0, 0};
        for (int what = 0; what <= 7; what++) {
            Due.due("count " + what, x.count(what), counts[what]);
        }
        Due.due("nothing to be undone", x.undo(), PuddleClaims.NONE);
        Due.due("the draw stays", x.seed(1), 77);
        Due.due("the sheet stays", x.drop(2), 5);
        Due.due("the image stays", x.restore(), 1);
        Due.due("as it was", x.count(1), 2);
    }

    private static void aFaultLeavesAll() {
        PuddleClaims x = Due.street("p19,p29;1,2");
        x.hours(1);
        x.rain(5);
        Due.due("fault", Due.morning(x, "s35,k4"), -26);
        int[] counts = {2, 2, 1, 24, 0, 3, 3, 2};
        for (int what = 0; what <= 7; what++) {
            Due.due("count " + what, x.count(what), counts[what]);
        }
        Due.due("kind", x.of(0, 0), 0);
        Due.due("undo", x.undo(), 1);
        Due.due("deep", x.of(0, 2), 7);
    }
}
