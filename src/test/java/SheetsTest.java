/** Promises 32 to 37: sheets, what is dipped by them and filmed on them. */
public final class SheetsTest {
    private static final int LOW = Integer.MIN_VALUE, HIGH = Integer.MAX_VALUE;
    private static final int BAD = PuddleClaims.BAD, NULL = PuddleClaims.NULL, CAST = PuddleClaims.CAST;
    private static final int INDEX = PuddleClaims.INDEX, SIZE = PuddleClaims.SIZE, NONE = PuddleClaims.NONE;

    public static void main(String[] args) {
        sheetsAreMade();
        sheetsAreDropped();
        itemsAreCut();
        itemsAreRefused();
        itemsAreCopied();
        copyingIsRefused();
        kindsAreDipped();
        depthsAreDipped();
        dippingIsRefused();
        depthsAreFilmed();
        filmingIsRefused();
        Due.finish();
    }

    private static void sheetsAreMade() {
        PuddleClaims x = new PuddleClaims();
        for (int lane = 0; lane <= 3; lane++) {
            Due.due("sheet", x.sheet(lane, lane, 6 * lane), 6 * lane);
        }
        Due.due("the edge", x.sheet(3, 3, 24), 24);
        int[][] bad = {{-1, 0, 0}, {4, 0, 0}, {HIGH, 0, 0}, {0, -1, 0}, {0, 4, 0}, {0, LOW, 0}, {0, 0, 25}, {0, 0, HIGH},
            {4, 0, -1}, {0, 4, -1}};
        for (int[] b : bad) {
            Due.due("bad sheet", x.sheet(b[0], b[1], b[2]), BAD);
        }
        Due.due("below 0", x.sheet(3, 0, -1), SIZE);
        Due.due("far below 0", x.sheet(3, 0, LOW), SIZE);
        Due.due("what is refused changes nothing", x.item(3, 3, 23, 1), 1);
        Due.due("the first item too", x.item(3, 3, 0, 1), 1);
        Due.due("anew", x.sheet(3, 3, 24), 24);
        x.puddle(0, 0, 0);
        for (int i = 0; i < 24; i++) {
            Due.due("item " + i + " is 0", x.dipped(0, 3, 3, i, 1, 0), 31);
        }
    }

    private static void sheetsAreDropped() {
        PuddleClaims x = new PuddleClaims();
        x.sheet(1, 2, 17);
        x.sheet(2, 2, 0);
        Due.due("drop", x.drop(1), 17);
        Due.due("again", x.drop(1), NULL);
        Due.due("of no items", x.drop(2), 0);
        Due.due("never made", x.drop(3), NULL);
        Due.due("bad", x.drop(4), BAD);
        Due.due("bad", x.drop(-1), BAD);
        Due.due("bad", x.drop(LOW), BAD);
        Due.due("anew", x.sheet(1, 0, 3), 3);
        Due.due("drop", x.drop(1), 3);
    }

    private static void itemsAreCut() {
        long[] beyond = {256L, 65536L, 4294967296L, 0L};
        for (int lane = 0; lane <= 3; lane++) {
            PuddleClaims x = Due.street("w09");
            x.sheet(0, lane, 2);
            Due.due("item", x.item(0, lane, 1, beyond[lane] * 5 + 8), 1);
            Due.due("its lowest bits", x.dipped(0, 0, lane, 1, 1, 0), 10);
            Due.due("item", x.item(0, lane, 1, 8 - beyond[lane]), 1);
            Due.due("its lowest bits", x.dipped(0, 0, lane, 1, 1, 0), 10);
            Due.due("item", x.item(0, lane, 1, 8 + (lane == 0 ? 128 : 1L << (lane == 1 ? 15 : 31))), 1);
            Due.due("one bit more", x.dipped(0, 0, lane, 1, 1, 0), 0);
        }
        PuddleClaims x = Due.street("w09");
        x.sheet(0, 3, 1);
        x.item(0, 3, 0, 4294967296L + 8);
        Due.due("a long is not cut", x.dipped(0, 0, 3, 0, 1, 0), 0);
        x.item(0, 3, 0, Long.MIN_VALUE + 8);
        Due.due("a long is not cut", x.dipped(0, 0, 3, 0, 1, 0), 0);
    }

    private static void itemsAreRefused() {
        PuddleClaims x = new PuddleClaims();
        x.sheet(0, 1, 5);
        Due.due("bad", x.item(4, 1, 0, 0), BAD);
        Due.due("bad", x.item(-1, 1, 0, 0), BAD);
        Due.due("bad", x.item(0, 4, 0, 0), BAD);
        Due.due("bad", x.item(0, -1, 0, 0), BAD);
        Due.due("bad before null", x.item(1, 4, 9, 0), BAD);
        Due.due("null", x.item(1, 1, 9, 0), NULL);
        Due.due("cast", x.item(0, 2, 9, 0), CAST);
        Due.due("cast", x.item(0, 0, 0, 0), CAST);
        int[] out = {5, -1, LOW, HIGH};
        for (int i : out) {
            Due.due("index", x.item(0, 1, i, 0), INDEX);
        }
        Due.due("the last", x.item(0, 1, 4, 0), 1);
        x.sheet(2, 1, 0);
        Due.due("of none", x.item(2, 1, 0, 0), INDEX);
    }

    private static void itemsAreCopied() {
        PuddleClaims x = new PuddleClaims();
        x.sheet(0, 2, 6);
        x.sheet(1, 2, 4);
        for (int i = 0; i < 6; i++) {
            x.item(0, 2, i, 10 + i);
        }
        Due.due("to another", x.copy(0, 2, 1, 0, 4), 4);
        same(x, 1, 12, 13, 14, 15);
        Due.due("up in the same", x.copy(0, 0, 0, 1, 5), 5);
        same(x, 0, 10, 10, 11, 12, 13, 14);
        Due.due("down in the same", x.copy(0, 2, 0, 0, 4), 4);
        same(x, 0, 11, 12, 13, 14, 13, 14);
        Due.due("none at the end", x.copy(0, 6, 1, 4, 0), 0);
        x.sheet(2, 2, 0);
        Due.due("none of none", x.copy(2, 0, 2, 0, 0), 0);
    }

    private static void same(PuddleClaims x, int sheet, int... due) {
        for (int i = 0; i < due.length; i++) {
            // A plain puddle that is 2 deeper is so behind an hour.
            Due.morning(x, "p0" + (due[i] + 2));
            Due.due("item " + i, x.dipped(0, sheet, 2, i, 1, 2), due[i] + 2);
        }
    }

    private static void copyingIsRefused() {
        PuddleClaims x = new PuddleClaims();
        x.sheet(0, 2, 6);
        x.sheet(1, 2, 4);
        x.sheet(2, 3, 4);
        Due.due("bad", x.copy(4, 0, 0, 0, 0), BAD);
        Due.due("bad", x.copy(0, 0, -1, 0, 0), BAD);
        Due.due("bad before null", x.copy(3, 0, 4, 0, 0), BAD);
        Due.due("null from", x.copy(3, 0, 0, 0, 0), NULL);
        Due.due("null to", x.copy(0, 0, 3, 9, 9), NULL);
        Due.due("cast", x.copy(0, 0, 2, 0, 0), CAST);
        Due.due("cast before index", x.copy(2, 9, 0, 9, 9), CAST);
        int[][] out = {{-1, 0, 1}, {0, -1, 1}, {0, 0, -1}, {3, 0, 4}, {0, 1, 4}, {0, 0, 5}, {7, 0, 0}, {0, 5, 0},
            {HIGH, 0, 1}, {0, HIGH, 1}, {0, 0, HIGH}, {1, 1, HIGH}, {LOW, 0, 0}, {0, LOW, 0}, {0, 0, LOW}, {HIGH, HIGH, HIGH}};
        for (int[] o : out) {
            Due.due("index", x.copy(0, o[0], 1, o[1], o[2]), INDEX);
        }
    }

    private static void row(PuddleClaims x, int... values) {
        x.sheet(0, 2, values.length);
        for (int i = 0; i < values.length; i++) {
            x.item(0, 2, i, values[i]);
        }
    }

    private static void kindsAreDipped() {
        PuddleClaims x = Due.street("p020,p00");
        row(x, 18, 16);
        Due.due("plain alone", x.dipped(0, 0, 2, 0, 2, 0), 1);
        row(x, 19, 18, 17);
        Due.due("shady or a well", x.dipped(0, 0, 2, 0, 3, 0), 10);
        row(x, 16, 14);
        Due.due("a kerb", x.dipped(0, 0, 2, 0, 2, 0), 4);
        row(x, 14, 10);
        Due.due("a grate by a dry one", x.dipped(0, 0, 2, 0, 2, 0), 16);
        row(x, 20);
        Due.due("none", x.dipped(0, 0, 2, 0, 1, 0), 0);
        row(x, 0);
        Due.due("what is dry stays so", x.dipped(1, 0, 2, 0, 1, 0), 31);
        x.hours(1);
        row(x, 99, 16, 14);
        Due.due("from item 1 on, in an odd hour: plain", x.dipped(0, 0, 2, 1, 2, 0), 1);
        Due.due("one hour: plain or a kerb", x.dipped(0, 0, 2, 1, 1, 0), 5);
        PuddleClaims well = Due.street("p030");
        row(well, 30, 30);
        Due.due("a well that is deep", well.dipped(0, 0, 2, 0, 2, 0), 8);
        Due.due("nothing is changed", well.of(0, 0), 0);
    }

    private static void depthsAreDipped() {
        PuddleClaims x = Due.street("p020,g020,w00");
        row(x, 0);
        Due.due("0, 1 or 2", x.dipped(0, 0, 2, 0, 1, 1), 3);
        Due.due("the least", x.dipped(0, 0, 2, 0, 1, 2), 0);
        row(x, 9, 7);
        Due.due("one", x.dipped(0, 0, 2, 0, 2, 1), 1);
        Due.due("it", x.dipped(0, 0, 2, 0, 2, 2), 11);
        row(x, 59);
        Due.due("it would be 61", x.dipped(0, 0, 2, 0, 1, 1), 0);
        Due.due("none", x.dipped(0, 0, 2, 0, 1, 2), NONE);
        row(x, 10);
        Due.due("a grate by a dry one loses 6", x.dipped(1, 0, 2, 0, 1, 2), 16);
        row(x, 29, 28);
        Due.due("a well: 30 stays 30", x.dipped(2, 0, 2, 0, 2, 1), 0);
        row(x, 28);
        Due.due("a well: from 29", x.dipped(2, 0, 2, 0, 1, 2), 29);
        row(x, -1);
        Due.due("below 0", x.dipped(0, 0, 2, 0, 1, 1), 0);
        PuddleClaims two = Due.street("g09,g09");
        row(two, 5, 3, 0);
        Due.due("three hours of it", two.dipped(0, 0, 2, 0, 3, 2), 9);
        Due.due("nothing is changed", two.of(0, 2), 9);
    }

    private static void dippingIsRefused() {
        PuddleClaims x = Due.street("p020");
        x.sheet(0, 2, 8);
        x.sheet(2, 2, 0);
        int[][] bad = {{1, 0, 2, 0, 1, 0}, {-1, 0, 2, 0, 1, 0}, {0, 4, 2, 0, 1, 0}, {0, -1, 2, 0, 1, 0}, {0, 0, 4, 0, 1, 0},
            {0, 0, -1, 0, 1, 0}, {0, 0, 2, 0, 0, 0}, {0, 0, 2, 0, 9, 0}, {0, 0, 2, 0, -1, 0}, {0, 0, 2, 0, 1, 3},
            {0, 0, 2, 0, 1, -1}, {0, 1, 2, 0, 9, 0}, {0, 1, 2, 0, 1, 3}, {0, 0, 2, HIGH, HIGH, 0}};
        for (int[] b : bad) {
            Due.due("bad dipped", x.dipped(b[0], b[1], b[2], b[3], b[4], b[5]), BAD);
        }
        Due.due("null", x.dipped(0, 1, 2, 9, 1, 0), NULL);
        Due.due("cast", x.dipped(0, 0, 1, 9, 1, 0), CAST);
        int[][] out = {{-1, 1}, {8, 1}, {1, 8}, {7, 2}, {HIGH, 1}, {HIGH, 8}, {LOW, 1}};
        for (int[] o : out) {
            Due.due("index", x.dipped(0, 0, 2, o[0], o[1], 0), INDEX);
        }
        Due.due("of no items", x.dipped(0, 2, 2, 0, 1, 0), INDEX);
        Due.due("the edge stands", x.dipped(0, 0, 2, 0, 8, 0), 0);
        Due.due("the edge stands", x.dipped(0, 0, 2, 7, 1, 0), 0);
    }

    private static void depthsAreFilmed() {
        for (int lane = 0; lane <= 3; lane++) {
            PuddleClaims x = Due.street("p00,k020");
            x.sheet(0, lane, 24);
            Due.due("film", x.film(1, 4, 0, lane, 20), 4);
            int[] due = {16, 14, 10, 8};
            for (int k = 0; k < 4; k++) {
                // A plain puddle 2 deeper would be so deep behind an hour.
                Due.due("item " + k, x.dipped(0, 0, lane, 20 + k, 1, 2), due[k] + 2);
            }
            Due.due("the item ahead is as it was", x.dipped(0, 0, lane, 19, 1, 1), 3);
            Due.due("a kerb: a grate by a dry one would lose more", x.dipped(1, 0, lane, 20, 1, 0), 4);
            x.item(0, lane, 2, 58);
            Due.due("two of it", x.film(1, 2, 0, lane, 0), 2);
            Due.due("the item behind is as it was", x.dipped(0, 0, lane, 2, 1, 2), 60);
            Due.due("all of it", x.film(1, 24, 0, lane, 0), 24);
            Due.due("dry at last", x.dipped(0, 0, lane, 23, 1, 1), 3);
        }
    }

    private static void filmingIsRefused() {
        PuddleClaims x = Due.street("p020");
        x.sheet(0, 2, 8);
        for (int i = 0; i < 8; i++) {
            x.item(0, 2, i, 58);
        }
        int[][] bad = {{1, 1, 0, 2, 0}, {-1, 1, 0, 2, 0}, {0, 0, 0, 2, 0}, {0, 25, 0, 2, 0}, {0, LOW, 0, 2, 0},
            {0, 1, 4, 2, 0}, {0, 1, -1, 2, 0}, {0, 1, 0, 4, 0}, {0, 1, 0, -1, 0}, {0, 25, 1, 2, 0}};
        for (int[] b : bad) {
            Due.due("bad film", x.film(b[0], b[1], b[2], b[3], b[4]), BAD);
        }
        Due.due("null", x.film(0, 1, 1, 2, 9), NULL);
        Due.due("cast", x.film(0, 1, 0, 3, 9), CAST);
        int[][] out = {{1, -1}, {1, 8}, {9, 0}, {2, 7}, {24, HIGH}, {1, LOW}};
        for (int[] o : out) {
            Due.due("index", x.film(0, o[0], 0, 2, o[1]), INDEX);
        }
        for (int i = 0; i < 8; i++) {
            Due.due("what is refused changes nothing", x.dipped(0, 0, 2, i, 1, 2), 60);
        }
    }
}
