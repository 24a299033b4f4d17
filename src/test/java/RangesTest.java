import java.util.function.Consumer;

/**
 * Promise by promise: the last number that is allowed and the first that is not, on both sides, and a
 * look at all there is behind each call that is refused.
 */
public final class RangesTest {
    private static final int LOW = Integer.MIN_VALUE, HIGH = Integer.MAX_VALUE;
    private static final int BAD = PuddleClaims.BAD, NOT = PuddleClaims.NOT, FULL = PuddleClaims.FULL;
    private static final int NONE = PuddleClaims.NONE, NULL = PuddleClaims.NULL, CAST = PuddleClaims.CAST;
    private static final int INDEX = PuddleClaims.INDEX, SIZE = PuddleClaims.SIZE;
    /** What Look.busy has. */
    private static final int LAST_PUDDLE = 3, LAST_PERSON = 3;

    public static void main(String[] args) {
        puddlesAndPeople();
        whatIsDone();
        whatIsForetold();
        theSheets();
        nothingOnAnEmptyStreet();
        sevenPuddlesSixPeople();
        ninetyLetters();
        theLastHour();
        theSumsThatWrapAround();
        notSo();
        noneIsKnown();
        whatTheMachineFinds();
        whatACallNamesFirst();
        foretellingChangesNothing();
        Due.finish();
    }

    private static void refused(String name, int due, long... arguments) {
        refused(Look::busy, name, due, arguments);
    }

    private static void refused(Consumer<PuddleClaims> before, String name, int due, long... arguments) {
        Look.refused(Call.told(name, arguments), before, x -> Call.make(x, name, arguments), due);
    }

    private static void allowed(String name, long... arguments) {
        Due.holds(Call.told(name, arguments) + " is allowed", Call.make(busy(), name, arguments) != BAD);
    }

    /** One argument's range, the others being good ones. */
    private static void range(String name, int which, int least, int most, long... good) {
        allowed(name, with(good, which, least));
        allowed(name, with(good, which, most));
        refused(name, BAD, with(good, which, least - 1));
        refused(name, BAD, with(good, which, most + 1));
        refused(name, BAD, with(good, which, LOW));
        refused(name, BAD, with(good, which, HIGH));
    }

    private static long[] with(long[] good, int which, long v) {
        long[] all = good.clone();
        all[which] = v;
        return all;
    }

    private static void puddlesAndPeople() {
        Due.says("A PUDDLE: its number. BAD");
        range("puddle", 0, 0, 4, 0, 0, 0);
        range("puddle", 1, 0, 7, 0, 0, 0);
        range("puddle", 2, 0, 60, 0, 0, 0);
        Due.says("One of PEOPLE: its number. BAD");
        range("person", 0, 0, 7, 0, 0, 1);
        range("person", 1, 0, 20, 0, 0, 1);
        range("person", 2, 1, 30, 0, 0, 1);
        Due.says("A PUDDLE SHOWS another SIGHT (or the same): what it did. BAD.");
        range("show", 0, 0, LAST_PUDDLE, 0, 0);
        range("show", 1, 0, 7, 0, 0);
        Due.says("Of a PUDDLE: 0 KIND .. 4 by how much it is less DEEP .. BAD.");
        range("of", 0, 0, LAST_PUDDLE, 0, 0);
        range("of", 1, 0, 4, 0, 0);
        Due.says("Of one of PEOPLE: 0 what is LOST .. 4 PUDDLES that are FIT now (a set). BAD.");
        range("at", 0, 0, LAST_PERSON, 0, 0);
        range("at", 1, 0, 4, 0, 0);
        Due.says("BAD: not 32 .. 126");
        range("type", 0, 32, 126, 0);
        Due.says("0 PUDDLES .. 7 what may be UNDONE. BAD.");
        range("count", 0, 0, 7, 0);
    }

    private static void whatIsDone() {
        Due.says("n HOURS (1 .. 40 ..) .. BAD");
        range("hours", 0, 1, 40, 1);
        Due.says("RAINED by n (1 .. 60) .. BAD");
        range("rain", 0, 1, 60, 1);
        Due.says("DRIVEN through: how DEEP it is then. BAD");
        range("drive", 0, 0, LAST_PUDDLE, 0);
        Due.says("SENT home: what it had CLAIMED. BAD");
        range("send", 0, 0, LAST_PERSON, 0);
        Due.says("LATER (0 .. 20): when it came. BAD");
        range("later", 0, 0, LAST_PERSON, 0, 5);
        range("later", 1, 0, 20, 0, 5);
        Due.says("A DRIFT of n HOURS (1 .. 40 ..) .. BAD");
        range("drift", 0, 1, 40, 1);
        Due.says("THE DRAW becomes v: what it was. BAD: below 0.");
        allowed("seed", 0);
        allowed("seed", HIGH);
        refused("seed", BAD, -1);
        refused("seed", BAD, LOW);
    }

    private static void whatIsForetold() {
        Due.says("behind n HOURS (0 .. 40) how DEEP a PUDDLE is");
        range("ahead", 0, 0, LAST_PUDDLE, 0, 0);
        range("ahead", 1, 0, 40, 0, 0);
        Due.says("behind n HOURS (0 .. 40) .. what one has CLAIMED");
        range("claims", 0, 0, LAST_PERSON, 0, 0);
        range("claims", 1, 0, 40, 0, 0);
        Due.says("behind n HOURS (0 .. 40) .. who has CLAIMED something (a set)");
        range("then", 0, 0, 40, 0);
        Due.says("SERVED; NONE. BAD.");
        range("served", 0, 0, LAST_PERSON, 0);
        Due.says("DRIES; NONE. BAD.");
        range("dries", 0, 0, LAST_PUDDLE, 0);
        Due.says("LATEST; NONE. BAD.");
        range("latest", 0, 0, LAST_PERSON, 0);
        Due.says("ORDER for n HOURS (1 .. 30)");
        range("order", 0, 1, 30, 1, 0);
        Due.says("BAD: k below -1.");
        allowed("order", 1, -1);
        allowed("order", 1, HIGH);
        refused("order", BAD, 1, -2);
        refused("order", BAD, 1, LOW);
        Due.says("WET for n HOURS (1 .. 30)");
        range("wet", 0, 1, 30, 1);
        Due.says("MATTERS for n HOURS (1 .. 30)");
        range("matters", 0, 1, 30, 1, 0);
        Due.says("MATTERS: the PUDDLE (what 0), how many (1)");
        range("matters", 1, 0, 1, 1, 0);
        Due.says("SIGHT for a PUDDLE, n HOURS (1 .. 30)");
        range("sight", 0, 0, LAST_PUDDLE, 0, 1, 0);
        range("sight", 1, 1, 30, 0, 1, 0);
        Due.says("SIGHT: which (what 0), how many (1). BAD.");
        range("sight", 2, 0, 1, 0, 1, 0);
        Due.says("CARTS by c of 10 (0 .. 10)");
        range("carts", 0, 0, LAST_PERSON, 0, 5, 0);
        range("carts", 1, 0, 10, 0, 5, 0);
        Due.says("CARTS: above (what 0), below (1). BAD.");
        range("carts", 2, 0, 1, 0, 5, 0);
    }

    private static void theSheets() {
        Due.says("DIPPED of a PUDDLE by n items of a SHEET taken as a row of a LANE .. BAD");
        range("dipped", 0, 0, LAST_PUDDLE, 0, 0, 0, 0, 1, 0);
        range("dipped", 1, 0, 3, 0, 0, 0, 0, 1, 0);
        range("dipped", 2, 0, 3, 0, 0, 0, 0, 1, 0);
        Due.says("how DEEP a PUDDLE is behind each of the next n HOURS (1 .. 8)");
        range("dipped", 4, 1, 8, 0, 0, 0, 0, 1, 0);
        Due.says("KINDS (what 0), how many numbers (1), the least (2; NONE). BAD");
        range("dipped", 5, 0, 2, 0, 0, 0, 0, 1, 0);
        Due.says("How DEEP a PUDDLE is behind 1, 2, .. n HOURS (1 .. 24) .. BAD");
        range("film", 0, 0, LAST_PUDDLE, 0, 1, 0, 0, 0);
        range("film", 1, 1, 24, 0, 1, 0, 0, 0);
        range("film", 2, 0, 3, 0, 1, 0, 0, 0);
        range("film", 3, 0, 3, 0, 1, 0, 0, 0);
        Due.says("A SHEET holds a new row of a LANE: n. BAD");
        range("sheet", 0, 0, 3, 0, 0, 1);
        range("sheet", 1, 0, 3, 0, 0, 1);
        Due.says("BAD: also n above 24; SIZE: n below 0.");
        allowed("sheet", 0, 0, 24);
        refused("sheet", BAD, 0, 0, 25);
        refused("sheet", BAD, 0, 0, HIGH);
        Due.due("of 0 items", new PuddleClaims().sheet(0, 0, 0), 0);
        refused("sheet", SIZE, 0, 0, -1);
        refused("sheet", SIZE, 0, 0, LOW);
        Due.says("A SHEET holds nothing: how many items it had. BAD");
        range("drop", 0, 0, 3, 0);
        Due.says("Item i of a SHEET, taken as a row of a LANE, becomes v .. BAD");
        range("item", 0, 0, 3, 0, 0, 0, 9);
        range("item", 1, 0, 3, 0, 0, 0, 9);
        Due.says("n items of a SHEET from i on come to another one (or the same) .. BAD");
        range("copy", 0, 0, 3, 0, 0, 0, 0, 1);
        range("copy", 2, 0, 3, 0, 0, 0, 0, 1);
    }

    private static void nothingOnAnEmptyStreet() {
        Due.says("A dry street, nobody.");
        Consumer<PuddleClaims> empty = x -> x.sheet(0, 0, 8);
        refused(empty, "show", BAD, 0, 0);
        refused(empty, "drive", BAD, 0);
        refused(empty, "ahead", BAD, 0, 0);
        refused(empty, "dries", BAD, 0);
        refused(empty, "sight", BAD, 0, 1, 0);
        refused(empty, "dipped", BAD, 0, 0, 0, 0, 1, 0);
        refused(empty, "film", BAD, 0, 1, 0, 0, 0);
        refused(empty, "send", BAD, 0);
        refused(empty, "later", BAD, 0, 0);
        refused(empty, "claims", BAD, 0, 0);
        refused(empty, "served", BAD, 0);
        refused(empty, "latest", BAD, 0);
        refused(empty, "carts", BAD, 0, 0, 0);
        for (int what = 0; what <= 4; what++) {
            refused(empty, "of", BAD, 0, what);
            refused(empty, "at", BAD, 0, what);
        }
    }

    private static void sevenPuddlesSixPeople() {
        Consumer<PuddleClaims> full = x -> {
            for (int p = 0; p < 7; p++) {
                Due.due("puddle", x.puddle(p % 5, p, 7 * p), p);
            }
            for (int q = 0; q < 6; q++) {
                Due.due("person", x.person(q, q, q + 1), q);
            }
            x.hours(1);
        };
        Due.says("FULL: 7.");
        refused(full, "puddle", FULL, 4, 7, 60);
        refused(full, "puddle", FULL, 0, 0, 0);
        refused(full, "show", BAD, 7, 0);
        refused(full, "of", BAD, 7, 0);
        refused(full, "drive", BAD, 7);
        Due.says("FULL: 6.");
        refused(full, "person", FULL, 7, 20, 30);
        refused(full, "person", FULL, 0, 0, 1);
        refused(full, "at", BAD, 6, 0);
        refused(full, "send", BAD, 6);
        refused(full, "later", BAD, 6, 0);
        Due.says("of several the first that a call names: BAD; FULL");
        refused(full, "puddle", BAD, 5, 0, 0);
        refused(full, "puddle", BAD, 0, 8, 0);
        refused(full, "puddle", BAD, 0, 0, 61);
        refused(full, "person", BAD, 8, 0, 1);
        refused(full, "person", BAD, 0, 21, 1);
        refused(full, "person", BAD, 0, 0, 31);
        Due.says("FULL: 7. (not of PEOPLE)");
        PuddleClaims people = new PuddleClaims();
        for (int k = 0; k < 6; k++) {
            people.person(0, 0, 1);
        }
        Due.due("a puddle beside six people", people.puddle(0, 0, 0), 0);
        PuddleClaims puddles = new PuddleClaims();
        for (int k = 0; k < 7; k++) {
            puddles.puddle(0, 0, 0);
        }
        Due.due("one beside seven puddles", puddles.person(0, 0, 1), 0);
    }

    private static void ninetyLetters() {
        Due.says("One letter more behind THE TAPE: how many it has. BAD: not 32 .. 126; FULL: 90.");
        Consumer<PuddleClaims> full = x -> {
            for (int k = 0; k < 90; k++) {
                Due.due("type", x.type(k < 87 ? ' ' : "p05".charAt(k - 87)), k + 1);
            }
        };
        refused(full, "type", FULL, '9');
        refused(full, "type", FULL, 32);
        refused(full, "type", FULL, 126);
        refused(full, "type", BAD, 31);
        refused(full, "type", BAD, 127);
        PuddleClaims x = new PuddleClaims();
        full.accept(x);
        x.type('9');
        Due.due("read of ninety letters", x.read(), 1);
        Due.due("the 91st is not among them", x.of(0, 2), 5);
        Due.due("one letter on a tape that is empty again", x.type('p'), 1);
    }

    /** A well that stays deep, at an hour near the end of all hours. */
    private static Consumer<PuddleClaims> atHour(int hour) {
        return x -> {
            x.puddle(3, 0, 60);
            x.person(0, 0, 1);
            for (int k = hour; k > 0; k -= 40) {
                x.hours(Math.min(40, k));
            }
        };
    }

    private static void theLastHour() {
        Due.says("FULL: the HOUR would be above 9999.");
        Due.due("hours(1) at 9998", hoursAt(9998, 1), 9999);
        Due.due("hours(40) at 9959", hoursAt(9959, 40), 9999);
        Due.due("hours(2) at 9997", hoursAt(9997, 2), 9999);
        refused(atHour(9999), "hours", FULL, 1);
        refused(atHour(9998), "hours", FULL, 2);
        refused(atHour(9960), "hours", FULL, 40);
        refused(atHour(9999), "hours", FULL, 40);
        Due.says("A DRIFT of n HOURS .. FULL: likewise.");
        refused(atHour(9999), "drift", FULL, 1);
        refused(atHour(9998), "drift", FULL, 2);
        refused(atHour(9960), "drift", FULL, 40);
        PuddleClaims x = new PuddleClaims();
        atHour(9998).accept(x);
        Due.due("drift(1) at 9998", x.drift(1), 1);
        Due.due("the hour", x.count(2), 9999);
        Due.says("of several the first that a call names: BAD; FULL");
        refused(atHour(9999), "hours", BAD, 0);
        refused(atHour(9999), "hours", BAD, 41);
        refused(atHour(9999), "hours", BAD, HIGH);
        refused(atHour(9999), "drift", BAD, 41);
        refused(atHour(9999), "drift", BAD, LOW);
    }

    private static int hoursAt(int hour, int n) {
        PuddleClaims x = new PuddleClaims();
        atHour(hour).accept(x);
        Due.due("the hour", x.count(2), hour);
        Due.due("hours", x.hours(n), 1);
        return x.count(2);
    }

    private static void theSumsThatWrapAround() {
        Due.says("INDEX (an index and a number whose sum wraps around)");
        refused("item", INDEX, 0, 0, HIGH, 1);
        refused("item", INDEX, 0, 0, LOW, 1);
        refused("film", INDEX, 0, 1, 0, 0, HIGH);
        refused("film", INDEX, 0, 24, 0, 0, HIGH - 23);
        refused("film", INDEX, 0, 24, 0, 0, HIGH);
        refused("film", INDEX, 0, 2, 0, 0, LOW);
        refused("dipped", INDEX, 0, 0, 0, HIGH, 1, 0);
        refused("dipped", INDEX, 0, 0, 0, HIGH - 6, 8, 0);
        refused("dipped", INDEX, 0, 0, 0, LOW, 8, 0);
        refused("copy", INDEX, 0, HIGH, 0, 0, 1);
        refused("copy", INDEX, 0, 0, 0, HIGH, 1);
        refused("copy", INDEX, 0, 0, 0, 0, HIGH);
        refused("copy", INDEX, 0, 1, 0, 1, HIGH);
        refused("copy", INDEX, 0, HIGH, 0, HIGH, HIGH);
        refused("copy", INDEX, 0, LOW, 0, 0, LOW);
        refused("copy", INDEX, 0, 0, 0, 0, LOW);
        refused("copy", INDEX, 0, LOW, 0, LOW, 0);
    }

    private static void notSo() {
        Due.says("NOT: it is DRY.");
        Consumer<PuddleClaims> dry = x -> {
            Look.busy(x);
            x.hours(40);
        };
        for (int p = 0; p <= LAST_PUDDLE; p++) {
            refused(dry, "drive", NOT, p);
        }
        PuddleClaims x = Due.street("p01");
        Due.due("drive through what is 1 deep", x.drive(0), 0);
        Due.due("once more", x.drive(0), NOT);
        Due.due("one may be undone", x.count(7), 1);
        Due.says("SENT home: what it had CLAIMED. BAD; NOT: none.");
        refused("send", NOT, 0);
        refused("send", NOT, 2);
        refused("send", NOT, 3);
        PuddleClaims busy = busy();
        Due.due("he has one", busy.send(1), 2);
        Due.says("LATER (0 .. 20): when it came. BAD; NOT: it is so.");
        refused("later", NOT, 0, 0);
        refused("later", NOT, 1, 0);
        refused("later", NOT, 2, 9);
        Due.due("8 for 9", busy.later(2, 8), 9);
        Due.due("10 for 8", busy.later(2, 10), 8);
        Due.due("0 for 10", busy.later(2, 0), 10);
        Due.due("20 for 0", busy.later(2, 20), 0);
        Due.due("20 for 20", busy.later(2, 20), NOT);
    }

    private static void noneIsKnown() {
        Due.says("UNDONE: how many more may be. NONE: none is known.");
        Consumer<PuddleClaims> nothing = x -> { };
        refused(nothing, "undo", NONE);
        Consumer<PuddleClaims> allUndone = x -> {
            x.puddle(0, 0, 9);
            x.person(0, 0, 1);
            x.image();
            x.hours(9);
            for (int k = 7; k >= 0; k--) {
                Due.due("undo", x.undo(), k);
            }
        };
        refused(allUndone, "undo", NONE);
        Due.says("All is as it was then: 1. NONE: there is none.");
        refused(nothing, "restore", NONE);
        refused(x -> {
            Due.morning(x, "p19;1");
            x.hours(1);
        }, "restore", NONE);
    }

    private static void whatTheMachineFinds() {
        // Of busy's sheets 0 has three bytes, 1 two ints, 2 nothing, 3 no longs.
        Due.says("DIPPED .. BAD; NULL; CAST; INDEX.");
        refused("dipped", NULL, 0, 2, 0, 0, 1, 0);
        refused("dipped", CAST, 0, 0, 1, 0, 1, 0);
        refused("dipped", CAST, 0, 1, 3, 0, 1, 0);
        refused("dipped", INDEX, 0, 0, 0, -1, 1, 0);
        refused("dipped", INDEX, 0, 0, 0, 3, 1, 0);
        refused("dipped", INDEX, 0, 0, 0, 2, 2, 0);
        refused("dipped", INDEX, 0, 0, 0, 0, 4, 0);
        refused("dipped", INDEX, 0, 3, 3, 0, 1, 0);
        Due.says("film .. BAD; NULL; CAST; INDEX.");
        refused("film", NULL, 0, 1, 2, 0, 0);
        refused("film", CAST, 0, 1, 0, 3, 0);
        refused("film", CAST, 0, 1, 1, 1, 0);
        refused("film", INDEX, 0, 1, 0, 0, -1);
        refused("film", INDEX, 0, 1, 0, 0, 3);
        refused("film", INDEX, 0, 2, 0, 0, 2);
        refused("film", INDEX, 0, 4, 0, 0, 0);
        refused("film", INDEX, 0, 1, 3, 3, 0);
        Due.says("item .. BAD; NULL; CAST; INDEX.");
        refused("item", NULL, 2, 0, 0, 1);
        refused("item", CAST, 0, 1, 0, 1);
        refused("item", CAST, 1, 3, 0, 1);
        refused("item", INDEX, 0, 0, -1, 1);
        refused("item", INDEX, 0, 0, 3, 1);
        refused("item", INDEX, 3, 3, 0, 1);
        Due.says("copy .. BAD; NULL (either); CAST: of unlike LANES; INDEX.");
        refused("copy", NULL, 2, 0, 0, 0, 1);
        refused("copy", NULL, 0, 0, 2, 0, 1);
        refused("copy", NULL, 2, 0, 2, 0, 0);
        refused("copy", CAST, 0, 0, 1, 0, 1);
        refused("copy", CAST, 1, 0, 3, 0, 0);
        refused("copy", INDEX, 0, -1, 0, 0, 1);
        refused("copy", INDEX, 0, 0, 0, -1, 1);
        refused("copy", INDEX, 0, 0, 0, 0, -1);
        refused("copy", INDEX, 0, 3, 0, 0, 1);
        refused("copy", INDEX, 0, 0, 0, 3, 1);
        refused("copy", INDEX, 0, 0, 0, 0, 4);
        refused("copy", INDEX, 0, 4, 0, 0, 0);
        refused("copy", INDEX, 0, 0, 0, 4, 0);
        Due.says("drop .. NULL.");
        refused("drop", NULL, 2);
    }

    private static void whatACallNamesFirst() {
        Due.says("of several the first that a call names");
        // Sheet 2 holds nothing: what is BAD is so ahead of NULL.
        refused("dipped", BAD, 4, 2, 0, 0, 1, 0);
        refused("dipped", BAD, 0, 2, 4, 0, 1, 0);
        refused("dipped", BAD, 0, 2, 0, 0, 9, 0);
        refused("dipped", BAD, 0, 2, 0, 0, 0, 0);
        refused("dipped", BAD, 0, 2, 0, 0, 1, 3);
        refused("film", BAD, 4, 1, 2, 0, 0);
        refused("film", BAD, 0, 25, 2, 0, 0);
        refused("film", BAD, 0, 0, 2, 0, 0);
        refused("film", BAD, 0, 1, 2, 4, 0);
        refused("item", BAD, 2, 4, 0, 1);
        refused("copy", BAD, 2, 0, 4, 0, 1);
        refused("copy", BAD, 4, 0, 2, 0, 1);
        // Sheet 0 is of bytes: ahead of CAST, and of INDEX.
        refused("dipped", BAD, 4, 0, 1, 9, 1, 0);
        refused("dipped", BAD, 0, 0, 1, 9, 9, 0);
        refused("dipped", BAD, 0, 0, 1, 9, 1, 3);
        refused("dipped", BAD, 0, 0, 0, -1, 9, 0);
        refused("film", BAD, 4, 1, 0, 1, 9);
        refused("film", BAD, 0, 25, 0, 1, 9);
        refused("film", BAD, 0, 25, 0, 0, -1);
        refused("sheet", BAD, 4, 0, -1);
        refused("sheet", BAD, -1, 0, -1);
        refused("sheet", BAD, 0, 4, -1);
        refused("sheet", BAD, 0, -1, -1);
        badAheadOfNone();
        Due.says("NULL, CAST, INDEX, SIZE in this order");
        refused("dipped", NULL, 0, 2, 3, -1, 8, 2);
        refused("film", NULL, 0, 24, 2, 3, -1);
        refused("item", NULL, 2, 3, -1, 1);
        refused("copy", NULL, 0, -1, 2, -1, -1);
        refused("copy", NULL, 2, -1, 0, -1, -1);
        refused("dipped", CAST, 0, 0, 3, -1, 8, 2);
        refused("film", CAST, 0, 24, 0, 3, -1);
        refused("item", CAST, 0, 3, -1, 1);
        refused("item", CAST, 3, 0, 0, 1);
        refused("copy", CAST, 0, -1, 1, -1, -1);
        refused("copy", CAST, 0, 9, 3, 9, 9);
    }

    /** NONE answers what was asked rightly: of hours, or of a k, that can't be told there is none to be had. */
    private static void badAheadOfNone() {
        Due.says("ORDER for n HOURS (1 .. 30) .. the k-th (NONE: not so many)");
        Due.due("not so many", busy().order(1, 9), NONE);
        refused("order", BAD, 0, 9);
        refused("order", BAD, 31, 9);
        refused("order", BAD, LOW, HIGH);
        refused("order", BAD, HIGH, HIGH);
        Due.says("WET for n HOURS (1 .. 30) .. none");
        Due.due("never", busy().wet(30), NONE);
        refused("wet", BAD, 0);
        refused("wet", BAD, 31);
        Due.says("behind n HOURS (0 .. 40) .. what one has CLAIMED; NONE. BAD.");
        Due.due("never", busy().claims(3, 40), NONE);
        refused("claims", BAD, 3, -1);
        refused("claims", BAD, 3, 41);
        Due.says("MATTERS for n HOURS (1 .. 30) .. none: there are none");
        Consumer<PuddleClaims> nothing = x -> { };
        refused(nothing, "matters", NONE, 1, 0);
        refused(nothing, "matters", BAD, 0, 0);
        refused(nothing, "matters", BAD, 31, 1);
        refused(nothing, "matters", BAD, 1, -1);
        refused(nothing, "matters", BAD, 1, 2);
    }

    private static PuddleClaims busy() {
        PuddleClaims x = new PuddleClaims();
        Look.busy(x);
        return x;
    }

    private static void unchanged(String name, long... arguments) {
        Look.untouched(Call.told(name, arguments), Look::busy, x -> Call.make(x, name, arguments));
    }

    private static void foretellingChangesNothing() {
        Due.says("FORETOLD from now (nothing is changed)");
        unchanged("ahead", 1, 40);
        unchanged("claims", 2, 40);
        unchanged("then", 40);
        unchanged("served", 2);
        unchanged("dries", 0);
        unchanged("match");
        unchanged("latest", 0);
        unchanged("order", 30, -1);
        unchanged("order", 30, 0);
        unchanged("wet", 30);
        unchanged("matters", 30, 0);
        unchanged("matters", 30, 1);
        unchanged("sight", 0, 30, 0);
        unchanged("sight", 0, 30, 1);
        unchanged("carts", 0, 5, 0);
        unchanged("carts", 0, 10, 1);
        for (int what = 0; what <= 2; what++) {
            unchanged("dipped", 0, 0, 0, 0, 3, what);
        }
        for (int what = 0; what <= 4; what++) {
            unchanged("of", 2, what);
            unchanged("at", 1, what);
        }
        for (int what = 0; what <= 7; what++) {
            unchanged("count", what);
        }
    }
}
