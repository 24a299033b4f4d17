import java.util.function.Consumer;
import java.util.function.ToIntFunction;

/** The edges of what is undone, of drifts and their draw, and of the image: promises 10, 15 to 17, 30 and 31. */
public final class UndoneEdgesTest {
    private static final int HIGH = Integer.MAX_VALUE;
    private static final int BAD = PuddleClaims.BAD, NOT = PuddleClaims.NOT, NONE = PuddleClaims.NONE;

    public static void main(String[] args) {
        eachDeedIsUndone();
        eightAreKnown();
        eachHourByItself();
        asAheadOfIt();
        whateverWasToldSince();
        whatLeavesNothingToBeUndone();
        whatIsRefusedIsNotUndone();
        theDraw();
        theCart();
        noneWithoutAny();
        eachWithItsCart();
        theImage();
        Due.finish();
    }

    /** Behind the deed and undo all is as if the deed had not been. */
    private static void undone(String name, Consumer<PuddleClaims> before, ToIntFunction<PuddleClaims> deed) {
        PuddleClaims x = new PuddleClaims();
        before.accept(x);
        int known = x.count(7);
        Due.holds(name + " is done", deed.applyAsInt(x) >= 0);
        Due.due("one more may be undone behind " + name, x.count(7), known + 1);
        Due.due("undo of " + name, x.undo(), known);
        PuddleClaims same = new PuddleClaims();
        before.accept(same);
        Look.alike(name + " and undo", x, same);
    }

    private static void eachDeedIsUndone() {
        Due.says("the latest HOUR, RAINED, DRIVEN, SENT, LATER is as it had not been");
        undone("hours(1)", Look::busy, x -> x.hours(1));
        undone("rain(60)", Look::busy, x -> x.rain(60));
        undone("drive(3)", Look::busy, x -> x.drive(3));
        undone("send(1)", Look::busy, x -> x.send(1));
        undone("later(2, 0)", Look::busy, x -> x.later(2, 0));
        undone("drift(1)", Look::busy, x -> x.drift(1));
        Consumer<PuddleClaims> withCart = x -> {
            Look.busy(x);
            x.seed(0);
        };
        undone("drift(1) with a cart", withCart, x -> x.drift(1));
        undone("rain(1) on nothing", x -> { }, x -> x.rain(1));
        undone("hours(1) of nobody", x -> { }, x -> x.hours(1));
        undone("drift(1) of nobody", x -> { }, x -> x.drift(1));
    }

    private static void eightAreKnown() {
        Due.says("(8 are known, older ones lost)");
        for (int deeds = 1; deeds <= 10; deeds++) {
            PuddleClaims x = Due.street("p00");
            for (int k = 0; k < deeds; k++) {
                x.rain(1);
            }
            int known = Math.min(8, deeds);
            Due.due("known behind " + deeds, x.count(7), known);
            for (int left = known - 1; left >= 0; left--) {
                Due.due("undo", x.undo(), left);
                Due.due("deep", x.of(0, 2), deeds - (known - left));
            }
            Due.due("none is known", x.undo(), NONE);
            Due.due("none is known still", x.undo(), NONE);
            Due.due("what is older stays", x.of(0, 2), deeds - known);
        }
        PuddleClaims x = Due.street("p00");
        for (int k = 0; k < 20; k++) {
            x.rain(3);
            x.undo();
            x.rain(1);
        }
        Due.due("the ring has gone round", x.count(7), 8);
        for (int k = 1; k <= 8; k++) {
            x.undo();
            Due.due("deep", x.of(0, 2), 20 - k);
        }
    }

    private static void eachHourByItself() {
        Due.says("n HOURS (1 .. 40; each by itself may be UNDONE)");
        int[] numbers = {1, 7, 8, 9, 40};
        for (int n : numbers) {
            PuddleClaims x = Due.street("s060;0");
            Due.due("hours " + n, x.hours(n), 1);
            Due.due("the hour", x.count(2), n);
            Due.due("deep", x.of(0, 2), 60 - n);
            Due.due("to be undone", x.count(7), Math.min(8, n));
            x.undo();
            Due.due("one less", x.count(2), n - 1);
            Due.due("one deeper", x.of(0, 2), 61 - n);
            Due.due("who has claimed", x.count(5), n == 1 ? 0 : 1);
        }
    }

    private static void asAheadOfIt() {
        Due.says("how DEEP all are, what is CLAIMED, when PEOPLE COME, the HOUR, THE DRAW are as ahead of it");
        PuddleClaims x = Due.street("p020,w130,g29,s31,k40,p551,w659;0,1@1,2,3@20,4,5");
        x.seed(12);
        x.drift(1);
        x.drift(1);
        Due.due("undo", x.undo(), 1);
        Due.due("undo", x.undo(), 0);
        int[] deep = {20, 30, 9, 1, 0, 51, 59};
        for (int p = 0; p < 7; p++) {
            Due.due("depth of " + p, x.of(p, 2), deep[p]);
        }
        int[] comes = {0, 1, 0, 20, 0, 0};
        for (int q = 0; q < 6; q++) {
            Due.due("when " + q + " comes", x.at(q, 1), comes[q]);
            Due.due("what " + q + " has claimed", x.at(q, 3), NONE);
        }
        Due.due("the hour", x.count(2), 0);
        Due.due("the draw", x.seed(1), 12);
        x.later(5, 20);
        x.later(0, 20);
        x.undo();
        Due.due("the first of people", x.at(0, 1), 0);
        Due.due("the last, told before", x.at(5, 1), 20);
        x.undo();
        Due.due("the last of people", x.at(5, 1), 0);
        x.hours(1);
        x.send(5);
        x.undo();
        Due.due("sent home, and back", x.at(5, 3), 5);
        x.drive(6);
        x.undo();
        Due.due("the last puddle", x.of(6, 2), 59);
    }

    private static void whateverWasToldSince() {
        Due.says("whatever was told since");
        PuddleClaims x = Due.street("p05;0@3");
        x.seed(HIGH);
        x.rain(1);
        x.seed(0);
        x.show(0, 7);
        Due.due("undo", x.undo(), 0);
        Due.due("the draw is as ahead of it", x.seed(4), HIGH);
        Due.due("what it shows is not among it", x.of(0, 1), 7);
        x.later(0, 4);
        x.image();
        x.sheet(0, 0, 3);
        x.type('p');
        Due.due("undo", x.undo(), 0);
        Due.due("comes", x.at(0, 1), 3);
        Due.due("the sheet stays", x.drop(0), 3);
        Due.due("the tape stays", x.type('0'), 2);
        Due.due("the image stays", x.restore(), 1);
        Due.due("comes", x.at(0, 1), 4);
    }

    private static void whatLeavesNothingToBeUndone() {
        Due.says("a MORNING, a new PUDDLE, one more of PEOPLE leave nothing to be UNDONE");
        PuddleClaims x = Due.street("p05;0");
        x.hours(9);
        Due.due("a morning", Due.morning(x, "p05;0"), 1);
        Due.due("count", x.count(7), 0);
        Due.due("undo", x.undo(), NONE);
        x.hours(9);
        Due.due("a new puddle", x.puddle(0, 0, 0), 1);
        Due.due("count", x.count(7), 0);
        Due.due("undo", x.undo(), NONE);
        x.hours(9);
        Due.due("one more of people", x.person(0, 0, 1), 1);
        Due.due("count", x.count(7), 0);
        Due.due("undo", x.undo(), NONE);
        Due.due("the hour stays", x.count(2), 18);
        x.rain(1);
        Due.due("what comes behind it may be", x.undo(), 0);
        PuddleClaims each = new PuddleClaims();
        for (int k = 0; k < 7; k++) {
            each.rain(1);
            Due.due("to be undone", each.count(7), 1);
            Due.due("puddle", each.puddle(0, 0, 0), k);
            Due.due("to be undone behind puddle " + k, each.count(7), 0);
        }
        for (int k = 0; k < 6; k++) {
            each.rain(1);
            Due.due("to be undone", each.count(7), 1);
            Due.due("person", each.person(0, 0, 1), k);
            Due.due("to be undone behind person " + k, each.count(7), 0);
        }
        Due.says("(what tells something leaves what may be UNDONE)");
        x.rain(1);
        x.show(0, 1);
        x.seed(3);
        x.image();
        x.sheet(0, 0, 1);
        x.type('p');
        Due.due("a fault", x.read(), -21);
        Due.due("still", x.count(7), 1);
    }

    private static void whatIsRefusedIsNotUndone() {
        Due.says("What is refused changes nothing");
        PuddleClaims x = Due.street("p00,p09;0");
        x.rain(1);
        x.drive(0);
        Due.due("two", x.count(7), 2);
        Due.due("dry", x.drive(0), NOT);
        Due.due("none", x.send(0), NOT);
        Due.due("it is so", x.later(0, 0), NOT);
        Due.due("bad", x.rain(61), BAD);
        Due.due("bad", x.hours(41), BAD);
        Due.due("bad", x.drift(0), BAD);
        Due.due("bad", x.puddle(5, 0, 0), BAD);
        Due.due("bad", x.person(8, 0, 0), BAD);
        Due.due("two still", x.count(7), 2);
        Due.due("undo", x.undo(), 1);
        Due.due("the cart", x.of(0, 2), 1);
    }

    private static void theDraw() {
        Due.says("the lowest 31 bits of itself times 1103515245 and 12345 more");
        long[] seeds = {0, 1, 2, 77, 65536, 1L << 30, HIGH - 1, HIGH};
        for (long seed : seeds) {
            PuddleClaims x = Due.street("w060");
            Due.due("seed", x.seed((int) seed), 1);
            x.drift(1);
            long next = (seed * 1103515245L + 12345L) % 2147483648L;
            Due.due("behind " + seed, x.seed(0), next);
        }
        Due.says("BAD: below 0.");
        PuddleClaims x = new PuddleClaims();
        Due.due("the least", x.seed(0), 1);
        Due.due("below it", x.seed(-1), BAD);
        Due.due("the greatest", x.seed(HIGH), 0);
        Due.due("far below", x.seed(Integer.MIN_VALUE), BAD);
        Due.due("as it was", x.seed(1), HIGH);
        Due.says("(THE DRAW stays)");
        x.seed(51);
        Due.morning(x, "p09,p09");
        Due.due("behind a morning", x.seed(51), 51);
        Due.due("a fault", Due.morning(x, "p"), -21);
        Due.due("behind a fault", x.seed(51), 51);
        x.puddle(0, 0, 0);
        x.person(0, 0, 1);
        x.hours(3);
        x.rain(1);
        Due.due("behind what is done but drifts", x.seed(51), 51);
    }

    /**
     * By 0 the next draw is 12345: by 65536 it is 0, so there is a cart; by 128 it is 96. So of 1, 2, 3, 4, 6
     * puddles the first is driven through, of 5 the second, of 7 the sixth (96 is 7 times 13 and 5 more).
     */
    private static void theCart() {
        Due.says("if it by 65536, left over by 3, is 0, the PUDDLE that is it by 128, left over by how many there are");
        int[] driven = {0, 0, 0, 0, 1, 0, 5};
        for (int many = 1; many <= 7; many++) {
            PuddleClaims x = new PuddleClaims();
            for (int p = 0; p < many; p++) {
                x.puddle(3, 0, 60);
            }
            x.seed(0);
            x.drift(1);
            for (int p = 0; p < many; p++) {
                Due.due("of " + many + ", puddle " + p, x.of(p, 2), p == driven[many - 1] ? 30 : 60);
            }
        }
        // By 1 it is 1103527590: by 65536 that is 16838, which leaves 2 over by 3.
        PuddleClaims none = Due.street("w060,w060");
        none.drift(1);
        Due.due("left over 2: no cart", none.count(3), 120);
        int carts = 0;
        PuddleClaims x = Due.street("w060");
        long draw = 5;
        x.seed(5);
        for (int k = 0; k < 30; k++) {
            draw = (draw * 1103515245L + 12345L) % 2147483648L;
            boolean isDriven = draw / 65536 % 3 == 0;
            carts += isDriven ? 1 : 0;
            int before = x.of(0, 2);
            x.drift(1);
            Due.due("drift " + k, x.of(0, 2), isDriven ? before / 2 : before);
            x.rain(60);
        }
        Due.holds("some with a cart, some without", carts > 3 && carts < 27);
        Due.says("DRIVEN through (ahead of each HOUR of a DRIFT)");
        PuddleClaims ahead = Due.street("p09;0/5");
        ahead.seed(0);
        Due.due("4 deep by then, so nobody claims", ahead.drift(1), 0);
        PuddleClaims enough = Due.street("p09;0/4");
        enough.seed(0);
        Due.due("4 deep is enough", enough.drift(1), 1);
        Due.due("less 2", enough.of(0, 2), 2);
        PuddleClaims well = Due.street("w059");
        well.seed(0);
        well.drift(1);
        Due.due("29 by then, so less 1", well.of(0, 2), 28);
        PuddleClaims dry = Due.street("p00");
        dry.seed(0);
        Due.due("a cart through a dry one", dry.drift(1), 0);
        Due.due("the hour passes all the same", dry.count(2), 1);
        Due.due("the draw too", dry.seed(0), 12345);
    }

    private static void noneWithoutAny() {
        Due.says("(none without any)");
        PuddleClaims x = new PuddleClaims();
        x.seed(0);
        Due.due("drift", x.drift(1), 0);
        Due.due("the draw", x.seed(0), 12345);
        Due.due("forty", x.drift(40), 0);
        Due.due("the hour", x.count(2), 41);
        PuddleClaims people = new PuddleClaims();
        people.person(0, 0, 1);
        Due.due("people alone", people.drift(40), 0);
    }

    private static void eachWithItsCart() {
        Due.says("A DRIFT of n HOURS (1 .. 40; each with its cart one that may be UNDONE)");
        int[] numbers = {1, 7, 8, 9, 40};
        for (int n : numbers) {
            PuddleClaims x = Due.street("p060,w060");
            PuddleClaims less = Due.street("p060,w060");
            x.drift(n);
            for (int k = 1; k < n; k++) {
                less.drift(1);
            }
            Due.due("the hour", x.count(2), n);
            Due.due("to be undone", x.count(7), Math.min(8, n));
            Due.due("undo", x.undo(), Math.min(8, n) - 1);
            Due.due("the hour", x.count(2), n - 1);
            Due.due("plain", x.of(0, 2), less.of(0, 2));
            Due.due("well", x.of(1, 2), less.of(1, 2));
            Due.due("the draw", x.seed(0), less.seed(0));
        }
    }

    private static void theImage() {
        Due.says("All but SHEETS, THE TAPE is kept as an IMAGE: 1.");
        Consumer<PuddleClaims> kept = x -> {
            Look.busy(x);
            x.image();
        };
        PuddleClaims x = new PuddleClaims();
        kept.accept(x);
        x.hours(9);
        x.rain(60);
        x.show(0, 7);
        x.seed(5);
        x.puddle(4, 4, 44);
        x.person(4, 4, 4);
        Due.says("All is as it was then: 1.");
        Due.due("restore", x.restore(), 1);
        PuddleClaims same = new PuddleClaims();
        kept.accept(same);
        Look.alike("restore", x, same);
        Due.says("restore .. (more than once, and the latest IMAGE)");
        PuddleClaims twice = Due.street("p09");
        twice.image();
        twice.rain(1);
        twice.restore();
        twice.rain(2);
        Due.due("restore", twice.restore(), 1);
        Due.due("deep", twice.of(0, 2), 9);
        twice.rain(3);
        Due.due("image", twice.image(), 1);
        twice.undo();
        twice.restore();
        Due.due("the later one", twice.of(0, 2), 12);
        Due.due("with what may be undone", twice.undo(), 0);
        Due.due("deep", twice.of(0, 2), 9);
        Due.says("All but SHEETS, THE TAPE");
        PuddleClaims but = Due.street("p09");
        but.type('s');
        but.sheet(0, 2, 2);
        but.item(0, 2, 0, 5);
        but.sheet(1, 2, 3);
        but.image();
        but.type('4');
        but.item(0, 2, 0, 7);
        but.drop(1);
        but.sheet(2, 2, 4);
        Due.due("restore", but.restore(), 1);
        Due.due("the item that was put since", but.dipped(0, 0, 2, 0, 1, 2), 9);
        Due.due("the sheet that was dropped since", but.drop(1), PuddleClaims.NULL);
        Due.due("the sheet that was made since", but.drop(2), 4);
        Due.due("two letters were typed", but.type('3'), 3);
        Due.due("read", but.read(), 1);
        Due.due("the kind that was typed ahead of the image", but.of(0, 0), 1);
        Due.due("the sight that was typed since", but.of(0, 1), 4);
        Due.due("restore with an empty tape", but.restore(), 1);
        Due.due("it is empty still", but.read(), -20);
        Due.says("restore .. (an IMAGE of a dry street with nobody)");
        PuddleClaims empty = new PuddleClaims();
        Due.due("image", empty.image(), 1);
        Due.morning(empty, "p09;0");
        empty.hours(2);
        Due.due("restore", empty.restore(), 1);
        for (int what = 0; what <= 7; what++) {
            Due.due("count " + what, empty.count(what), 0);
        }
        Due.due("the first comes anew", empty.puddle(0, 0, 0), 0);
        Due.due("and nobody has it", empty.person(0, 0, 1), 0);
        Due.due("claimed", empty.at(0, 3), NONE);
    }
}
