/** The edges of mornings as texts (promises 7 and 8), sentence by sentence, each fault with a look behind it. */
public final class TextEdgesTest {
    private static final int NONE = PuddleClaims.NONE;

    public static void main(String[] args) {
        oneToSevenPuddles();
        theKinds();
        theSightOfAPuddle();
        howDeep();
        perhapsPeople();
        oneToSixPeople();
        whatOneLost();
        whenOneComes();
        whatOneNeeds();
        oneOrTwoDigits();
        blanks();
        theEnd();
        lettersThatStandNowhere();
        theTapeIsEmptyThen();
        inPlaceOfAll();
        Due.finish();
    }

    private static void fault(String text, int place) {
        Look.refused("'" + text + "'", Look::withEmptyTape, x -> Due.morning(x, text), -20 - place);
    }

    private static PuddleClaims right(String text, int puddles, int people) {
        PuddleClaims x = new PuddleClaims();
        Look.withEmptyTape(x);
        Due.due("'" + text + "'", Due.morning(x, text), puddles);
        Due.due("'" + text + "': puddles", x.count(0), puddles);
        Due.due("'" + text + "': people", x.count(1), people);
        return x;
    }

    private static void puddle(String text, int kind, int sight, int deep) {
        PuddleClaims x = right(text, 1, 0);
        Due.due("'" + text + "': kind", x.of(0, 0), kind);
        Due.due("'" + text + "': sight", x.of(0, 1), sight);
        Due.due("'" + text + "': deep", x.of(0, 2), deep);
    }

    private static void person(String text, int lost, int comes, int needs) {
        PuddleClaims x = right(text, 1, 1);
        Due.due("'" + text + "': lost", x.at(0, 0), lost);
        Due.due("'" + text + "': comes", x.at(0, 1), comes);
        Due.due("'" + text + "': needs", x.at(0, 2), needs);
    }

    private static void oneToSevenPuddles() {
        Due.says("A MORNING is a TEXT: 1 to 7 PUDDLES with , between");
        fault("", 0);
        fault(";", 0);
        fault(";0", 0);
        fault(",", 0);
        fault(",p00", 0);
        right("p00", 1, 0);
        right("p00,p00", 2, 0);
        right("p00,p00,p00,p00,p00,p00", 6, 0);
        PuddleClaims seven = right("p00,s11,k22,w33,g44,p55,s66", 7, 0);
        int[] kinds = {0, 1, 2, 3, 4, 0, 1};
        for (int p = 0; p < 7; p++) {
            Due.due("kind of " + p, seven.of(p, 0), kinds[p]);
            Due.due("sight of " + p, seven.of(p, 1), p);
            Due.due("depth of " + p, seven.of(p, 2), p);
        }
        fault("p00,p00,p00,p00,p00,p00,p00,", 27);
        fault("p00,p00,p00,p00,p00,p00,p00,p00", 27);
        fault("p00,p00,p00,p00,p00,p00,p00 ,p00", 28);
        right("p00,p00,p00,p00,p00,p00,p00;0", 7, 1);
        fault("p00,", 4);
        fault("p00,,p00", 4);
        fault("p00p00", 3);
        fault("p00 p00", 4);
        fault("p00,;0", 4);
    }

    private static void theKinds() {
        Due.says("p s k w g (PLAIN, SHADY, KERB, WELL, GRATE)");
        puddle("p00", 0, 0, 0);
        puddle("s00", 1, 0, 0);
        puddle("k00", 2, 0, 0);
        puddle("w00", 3, 0, 0);
        puddle("g00", 4, 0, 0);
        fault("P00", 0);
        fault("a00", 0);
        fault("h00", 0);
        fault("000", 0);
        fault("pp00", 1);
        fault("p00,x00", 4);
    }

    private static void theSightOfAPuddle() {
        Due.says("a digit 0 .. 7 (SIGHT)");
        puddle("p09", 0, 0, 9);
        puddle("p79", 0, 7, 9);
        fault("p89", 1);
        fault("p99", 1);
        fault("p/9", 1);
        fault("p:9", 1);
        fault("p", 1);
        fault("p,", 1);
        Due.says("The first digit behind a KIND is the SIGHT, the number may stand at once behind it.");
        puddle("p12", 0, 1, 2);
        puddle("p123", 0, 1, 23);
        puddle("p1 23", 0, 1, 23);
        puddle("p 1 23", 0, 1, 23);
        puddle("p 123", 0, 1, 23);
        fault("p12 3", 4);
    }

    private static void howDeep() {
        Due.says("a number 0 .. 60 (DEEP)");
        puddle("p30", 0, 3, 0);
        puddle("p31", 0, 3, 1);
        puddle("p359", 0, 3, 59);
        puddle("p360", 0, 3, 60);
        fault("p361", 2);
        fault("p369", 2);
        fault("p370", 2);
        fault("p399", 2);
        fault("p3  61", 4);
        fault("p3", 2);
        fault("p3,", 2);
        fault("p3;", 2);
        fault("p3-1", 2);
        fault("p3x", 2);
        fault("p00,p361", 6);
    }

    private static void perhapsPeople() {
        Due.says("then perhaps ; and 1 to 6 PEOPLE");
        right("p00", 1, 0);
        right("p00;0", 1, 1);
        fault("p00;", 4);
        fault("p00; ", 5);
        fault("p00;;0", 4);
        fault("p00;0;0", 5);
        fault("p00;0,p00", 6);
        fault("p00;0;p00", 5);
    }

    private static void oneToSixPeople() {
        Due.says("1 to 6 PEOPLE with , between");
        right("p00;0,0", 1, 2);
        right("p00;0,0,0,0,0", 1, 5);
        PuddleClaims six = right("p00;0@0/1,1@1/2,2@2/3,3@3/4,4@4/5,5@5/6", 1, 6);
        for (int q = 0; q < 6; q++) {
            Due.due("what " + q + " lost", six.at(q, 0), q);
            Due.due("when " + q + " comes", six.at(q, 1), q);
            Due.due("what " + q + " needs", six.at(q, 2), q + 1);
            Due.due("what " + q + " has claimed", six.at(q, 3), NONE);
        }
        fault("p00;0,0,0,0,0,0,", 15);
        fault("p00;0,0,0,0,0,0,0", 15);
        fault("p00;0,0,0,0,0,0/3 ,0", 18);
        fault("p00;0,", 6);
        fault("p00;,0", 4);
        fault("p00;0,,0", 6);
        fault("p00;0 0", 6);
    }

    private static void whatOneLost() {
        Due.says("a digit 0 .. 7 (LOST)");
        person("p00;0", 0, 0, 1);
        person("p00;7", 7, 0, 1);
        fault("p00;8", 4);
        fault("p00;9", 4);
        fault("p00;/", 4);
        fault("p00;@1", 4);
        fault("p00;x", 4);
        fault("p00;0,8", 6);
        fault("p00;00", 5);
        fault("p00;07", 5);
    }

    private static void whenOneComes() {
        Due.says("then perhaps @ and a number 0 .. 20 (COMES; else 0)");
        person("p00;1", 1, 0, 1);
        person("p00;1@0", 1, 0, 1);
        person("p00;1@1", 1, 1, 1);
        person("p00;1@19", 1, 19, 1);
        person("p00;1@20", 1, 20, 1);
        person("p00;1@09", 1, 9, 1);
        fault("p00;1@21", 6);
        fault("p00;1@29", 6);
        fault("p00;1@30", 6);
        fault("p00;1@99", 6);
        fault("p00;1@", 6);
        fault("p00;1@,", 6);
        fault("p00;1@/3", 6);
        fault("p00;1@@3", 6);
        fault("p00;1@3@3", 7);
        fault("p00;1@ 21", 7);
    }

    private static void whatOneNeeds() {
        Due.says("perhaps / and a number 1 .. 30 (NEEDS; else 1)");
        person("p00;1/1", 1, 0, 1);
        person("p00;1/01", 1, 0, 1);
        person("p00;1/2", 1, 0, 2);
        person("p00;1/29", 1, 0, 29);
        person("p00;1/30", 1, 0, 30);
        person("p00;1@20/30", 1, 20, 30);
        person("p00;1@3", 1, 3, 1);
        fault("p00;1/0", 6);
        fault("p00;1/00", 6);
        fault("p00;1/31", 6);
        fault("p00;1/40", 6);
        fault("p00;1/99", 6);
        fault("p00;1/", 6);
        fault("p00;1/,", 6);
        fault("p00;1//1", 6);
        fault("p00;1/1/1", 7);
        fault("p00;1/1@1", 7);
        fault("p00;1@2/0", 8);
        fault("p00;1/ 31", 7);
    }

    private static void oneOrTwoDigits() {
        Due.says("Numbers have 1 or 2 digits (a third one can't stand there).");
        puddle("p10", 0, 1, 0);
        puddle("p100", 0, 1, 0);
        puddle("p109", 0, 1, 9);
        fault("p1000", 4);
        fault("p1009", 4);
        fault("p1600", 4);
        fault("p1099", 4);
        fault("p00;1@000", 8);
        fault("p00;1@200", 8);
        fault("p00;1@199", 8);
        fault("p00;1/010", 8);
        fault("p00;1/300", 8);
        fault("p00;1@2/300", 10);
        Due.says("or of the number's first digit, if it is not as told (which is ahead of a third one)");
        fault("p1610", 2);
        fault("p00;1@210", 6);
        fault("p00;1/310", 6);
        fault("p00;1/001", 6);
    }

    private static void blanks() {
        Due.says("blanks count for nothing, but end a number");
        puddle(" p00", 0, 0, 0);
        puddle("p00 ", 0, 0, 0);
        puddle("  s  5  43  ", 1, 5, 43);
        right(" p 0 0 , p 0 0 ; 0 @ 1 / 2 , 0 / 2 , 0 @ 1 ", 2, 3);
        person("p00;1 @ 12 / 13", 1, 12, 13);
        fault("p01 2", 4);
        fault("p01 2,p00", 4);
        fault("p00;1@1 2", 8);
        fault("p00;1/1 2", 8);
        fault("p01  2", 5);
        Due.says("the place of the first letter (behind blanks) that can't stand there");
        fault("   x", 3);
        fault("p  x", 3);
        fault("p0  x", 4);
        fault("p00  x", 5);
        fault("p00;  x", 6);
        fault("p00;0  x", 7);
        fault("p00;0@  x", 8);
        fault("p00;0@1  x", 9);
        fault("p00;0/  x", 8);
        fault("p00;0/1  x", 9);
        fault("p00,  x", 6);
    }

    private static void theEnd() {
        Due.says("(the end: how many there are)");
        fault("", 0);
        fault(" ", 1);
        fault("   ", 3);
        fault("p", 1);
        fault("p ", 2);
        fault("p0", 2);
        fault("p0  ", 4);
        fault("p00,", 4);
        fault("p00, ", 5);
        fault("p00;", 4);
        fault("p00;   ", 7);
        fault("p00;0,", 6);
        fault("p00;0, ", 7);
        fault("p00;0@", 6);
        fault("p00;0@ ", 7);
        fault("p00;0/", 6);
        fault("p00;0/  ", 8);
        fault(" ".repeat(89) + "p", 90);
        fault(" ".repeat(90), 90);
        fault("p00" + " ".repeat(86) + "x", 89);
    }

    private static void lettersThatStandNowhere() {
        Due.says("the first letter .. that can't stand there");
        for (char letter = 33; letter <= 126; letter++) {
            if ("pskwg".indexOf(letter) < 0) {
                fault("" + letter, 0);
            }
            if (letter != ',' && letter != ';' ) {
                fault("p00 " + letter, 4);
            }
            if ("@/,".indexOf(letter) < 0) {
                fault("p00;0" + letter, 5);
            }
        }
        Due.says("(of several the first)");
        fault("p8,p8", 1);
        fault("p00,p8;x", 5);
        fault("p061;9@99/99", 2);
        fault("p00;9@99/99", 4);
        fault("p00;0@99/99", 6);
    }

    private static void theTapeIsEmptyThen() {
        Due.says("THE TAPE, which is empty then, is a MORNING: how many PUDDLES. A FAULT (all else stays).");
        PuddleClaims x = new PuddleClaims();
        Due.due("a morning", Due.morning(x, "p09"), 1);
        Due.due("of the tape nothing is left", x.read(), -20);
        Due.due("a fault", Due.morning(x, "p09x"), -23);
        Due.due("of the tape nothing is left", x.read(), -20);
        Due.due("the street stays", x.of(0, 2), 9);
        Due.due("one letter", x.type('x'), 1);
        Due.due("a letter that is refused", x.type(31), PuddleClaims.BAD);
        Due.due("two letters", x.type('y'), 2);
        Due.due("a fault", x.read(), -20);
    }

    private static void inPlaceOfAll() {
        Due.says("in place of all; HOUR 0 (THE DRAW stays)");
        PuddleClaims x = right("s35", 1, 0);
        int[] counts = {1, 0, 0, 5, 0, 0, 0, 0};
        for (int what = 0; what <= 7; what++) {
            Due.due("count " + what, x.count(what), counts[what]);
        }
        Due.due("the second puddle is gone", x.of(1, 0), PuddleClaims.BAD);
        Due.due("the first of people is gone", x.at(0, 0), PuddleClaims.BAD);
        Due.due("the draw", x.seed(1), 77);
        Due.due("the sheet stays", x.drop(0), 3);
        PuddleClaims foretold = Due.street("w09;0@20");
        Due.due("foretold", foretold.then(40), 0);
        Due.due("foretold", foretold.ahead(0, 40), 0);
        Due.morning(foretold, "k09;0");
        Due.due("the hour, whatever was foretold", foretold.count(2), 0);
        Due.due("by an even hour", foretold.of(0, 4), 4);
        PuddleClaims claimed = Due.street("w09;0");
        claimed.hours(1);
        Due.morning(claimed, "w09;0");
        Due.due("nobody has claimed", claimed.at(0, 3), NONE);
        Due.due("nothing is claimed", claimed.of(0, 3), NONE);
        Due.due("the hour", claimed.count(2), 0);
    }
}
