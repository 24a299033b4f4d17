/** The edges of sheets, of what is dipped by them and filmed on them: promises 32 to 37, sentence by sentence. */
public final class SheetEdgesTest {
    private static final int HIGH = Integer.MAX_VALUE;
    private static final int NONE = PuddleClaims.NONE, NULL = PuddleClaims.NULL, CAST = PuddleClaims.CAST;
    private static final int INDEX = PuddleClaims.INDEX;

    public static void main(String[] args) {
        theRows();
        aNewRow();
        holdsNothing();
        theItems();
        theLowestBits();
        allItems();
        asIfAllWereTakenAhead();
        kinds();
        howManyNumbers();
        theLeast();
        nHours();
        fromItemOn();
        whatLiesNextToIt();
        film();
        Due.finish();
    }

    private static PuddleClaims rowOf(String street, int... values) {
        PuddleClaims x = Due.street(street);
        x.sheet(0, 2, values.length);
        for (int i = 0; i < values.length; i++) {
            Due.due("item", x.item(0, 2, i, values[i]), 1);
        }
        return x;
    }

    /** An item, seen by how deep the first puddle, a plain one, might be now; -1 for what it can't be. */
    private static int seen(PuddleClaims x, int sheet, int lane, int i) {
        int least = x.dipped(0, sheet, lane, i, 1, 2);
        return least == 0 ? 0 : least > 2 ? least - 2 : least == NONE ? -1 : least;
    }

    private static void theRows() {
        Due.says("a row of a LANE: 0 bytes, 1 shorts, 2 ints, 3 longs, of 0 to 24 items");
        int[] sizes = {0, 1, 23, 24};
        for (int sheet = 0; sheet <= 3; sheet++) {
            for (int lane = 0; lane <= 3; lane++) {
                for (int n : sizes) {
                    PuddleClaims x = new PuddleClaims();
                    Due.due("sheet", x.sheet(sheet, lane, n), n);
                    Due.due("one too far", x.item(sheet, lane, n, 1), INDEX);
                    Due.due("the last", x.item(sheet, lane, n - 1, 1), n == 0 ? INDEX : 1);
                    for (int other = 0; other <= 3; other++) {
                        Due.due("another lane", x.item(sheet, other, n, 1), other == lane ? INDEX : CAST);
                    }
                    for (int other = 0; other <= 3; other++) {
                        Due.due("drop", x.drop(other), other == sheet ? n : NULL);
                    }
                }
            }
        }
    }

    private static void aNewRow() {
        Due.says("A SHEET holds a new row of a LANE: n.");
        PuddleClaims x = Due.street("p00");
        x.sheet(1, 2, 24);
        for (int i = 0; i < 24; i++) {
            x.item(1, 2, i, 9);
        }
        Due.due("anew, shorter", x.sheet(1, 2, 3), 3);
        Due.due("its first item", seen(x, 1, 2, 0), 0);
        Due.due("its last item", seen(x, 1, 2, 2), 0);
        Due.due("one too far", x.item(1, 2, 3, 9), INDEX);
        Due.due("anew, longer", x.sheet(1, 2, 24), 24);
        for (int i = 0; i < 24; i++) {
            Due.due("item " + i, seen(x, 1, 2, i), 0);
        }
        Due.due("anew, of another lane", x.sheet(1, 0, 24), 24);
        Due.due("its old lane", x.item(1, 2, 0, 9), CAST);
        Due.due("its new lane", x.item(1, 0, 0, 9), 1);
        Due.due("the others hold nothing", x.drop(0), NULL);
        Due.due("the others hold nothing", x.drop(2), NULL);
    }

    private static void holdsNothing() {
        Due.says("A SHEET holds nothing: how many items it had. BAD; NULL.");
        PuddleClaims x = Due.street("p00");
        x.sheet(0, 0, 24);
        x.sheet(3, 3, 0);
        x.item(0, 0, 5, 44);
        Due.due("of 24", x.drop(0), 24);
        Due.due("of 0", x.drop(3), 0);
        Due.due("once more", x.drop(0), NULL);
        Due.due("once more", x.drop(3), NULL);
        Due.due("item", x.item(0, 0, 0, 1), NULL);
        Due.due("dipped", x.dipped(0, 0, 0, 0, 1, 0), NULL);
        Due.due("film", x.film(0, 1, 0, 0, 0), NULL);
        Due.due("copy", x.copy(0, 0, 0, 0, 0), NULL);
        Due.due("a new one", x.sheet(0, 0, 24), 24);
        Due.due("with nothing of the old one", seen(x, 0, 0, 5), 0);
    }

    private static void theItems() {
        Due.says("Item i of a SHEET, taken as a row of a LANE, becomes v .. 1.");
        PuddleClaims x = Due.street("p00");
        x.sheet(2, 1, 24);
        Due.due("the first", x.item(2, 1, 0, 11), 1);
        Due.due("the last", x.item(2, 1, 23, 12), 1);
        Due.due("ahead of the first", x.item(2, 1, -1, 13), INDEX);
        Due.due("behind the last", x.item(2, 1, 24, 14), INDEX);
        Due.due("the first", seen(x, 2, 1, 0), 11);
        Due.due("the second", seen(x, 2, 1, 1), 0);
        Due.due("the last but one", seen(x, 2, 1, 22), 0);
        Due.due("the last", seen(x, 2, 1, 23), 12);
    }

    private static void theLowestBits() {
        Due.says("becomes v, its lowest bits");
        int[] bits = {8, 16, 32, 64};
        for (int lane = 0; lane <= 3; lane++) {
            for (int bit = 6; bit < 64; bit++) {
                PuddleClaims x = Due.street("p00");
                x.sheet(0, lane, 1);
                Due.due("item", x.item(0, lane, 0, (1L << bit) + 9), 1);
                Due.due("lane " + lane + " with bit " + bit, seen(x, 0, lane, 0), bit < bits[lane] ? -1 : 9);
            }
            PuddleClaims x = Due.street("p00");
            x.sheet(0, lane, 1);
            x.item(0, lane, 0, -1L);
            Due.due("lane " + lane + " of all bits", seen(x, 0, lane, 0), -1);
            x.item(0, lane, 0, Long.MIN_VALUE);
            Due.due("lane " + lane + " of the highest bit", seen(x, 0, lane, 0), lane == 3 ? -1 : 0);
            x.item(0, lane, 0, Long.MAX_VALUE);
            Due.due("lane " + lane + " of all but it", seen(x, 0, lane, 0), -1);
        }
    }

    private static void row(PuddleClaims x, int sheet, int... due) {
        for (int i = 0; i < due.length; i++) {
            Due.due("item " + i + " of sheet " + sheet, seen(x, sheet, 2, i), due[i]);
        }
    }

    private static void allItems() {
        Due.says("n items of a SHEET from i on come to another one (or the same) from j on");
        PuddleClaims x = rowOf("p00", 11, 12, 13, 14);
        x.sheet(1, 2, 4);
        Due.due("none", x.copy(0, 0, 1, 0, 0), 0);
        Due.due("none, at both ends", x.copy(0, 4, 1, 4, 0), 0);
        Due.due("none beyond", x.copy(0, 5, 1, 0, 0), INDEX);
        Due.due("none to beyond", x.copy(0, 0, 1, 5, 0), INDEX);
        row(x, 1, 0, 0, 0, 0);
        Due.due("the last to the first", x.copy(0, 3, 1, 0, 1), 1);
        Due.due("the first to the last", x.copy(0, 0, 1, 3, 1), 1);
        row(x, 1, 14, 0, 0, 11);
        Due.due("two", x.copy(0, 1, 1, 1, 2), 2);
        row(x, 1, 14, 12, 13, 11);
        Due.due("all", x.copy(0, 0, 1, 0, 4), 4);
        row(x, 1, 11, 12, 13, 14);
        Due.due("one more", x.copy(0, 0, 1, 0, 5), INDEX);
        Due.due("one too late", x.copy(0, 1, 1, 0, 4), INDEX);
        Due.due("to one too late", x.copy(0, 0, 1, 1, 4), INDEX);
        row(x, 0, 11, 12, 13, 14);
        Due.says("copy .. CAST: of unlike LANES");
        for (int lane = 0; lane <= 3; lane++) {
            x.sheet(3, lane, 4);
            Due.due("to lane " + lane, x.copy(0, 0, 3, 0, 1), lane == 2 ? 1 : CAST);
            Due.due("from lane " + lane, x.copy(3, 0, 0, 0, 1), lane == 2 ? 1 : CAST);
        }
        PuddleClaims longs = Due.street("p00");
        longs.sheet(0, 3, 1);
        longs.sheet(1, 3, 1);
        longs.item(0, 3, 0, (1L << 32) + 9);
        longs.item(1, 3, 0, 9);
        longs.copy(0, 0, 1, 0, 1);
        Due.due("nothing of a long is cut", seen(longs, 1, 3, 0), -1);
    }

    private static void asIfAllWereTakenAhead() {
        Due.says("as if all were taken ahead");
        PuddleClaims up = rowOf("p00", 11, 12, 13, 14, 15);
        Due.due("up by one", up.copy(0, 0, 0, 1, 4), 4);
        row(up, 0, 11, 11, 12, 13, 14);
        PuddleClaims down = rowOf("p00", 11, 12, 13, 14, 15);
        Due.due("down by one", down.copy(0, 1, 0, 0, 4), 4);
        row(down, 0, 12, 13, 14, 15, 15);
        PuddleClaims same = rowOf("p00", 11, 12, 13, 14, 15);
        Due.due("where they are", same.copy(0, 0, 0, 0, 5), 5);
        row(same, 0, 11, 12, 13, 14, 15);
    }

    private static void kinds(String street, int due, int... row) {
        Due.due(street + " kinds", rowOf(street, row).dipped(0, 0, 2, 0, row.length, 0), due);
    }

    private static void kinds() {
        Due.says("KINDS (a set) of it by which it would be so");
        kinds("p060", 8, 60);
        kinds("p060", 2, 59);
        kinds("p060", 1, 58);
        kinds("p060", 4 + 16, 56);
        kinds("p060,p00", 4, 56);
        kinds("p060,p00", 16, 54);
        kinds("p060", 0, 57);
        kinds("p060", 0, 0);
        kinds("p00", 31, 0);
        kinds("p00", 31, 0, 0, 0, 0, 0, 0, 0, 0);
        kinds("p00", 0, 0, 0, 0, 0, 0, 0, 0, 1);
        kinds("p029", 2 + 8, 28);
        kinds("p030", 8, 30);
        kinds("p030", 2, 29);
        kinds("p02", 1 + 4 + 16, 0);
        kinds("p01", 31, 0);
        kinds("p03", 4 + 16, 0);
        kinds("p03", 1, 1);
        kinds("p04", 4 + 16, 0);
        kinds("p05", 0, 0);
        kinds("p00", 0, -1);
        kinds("p00", 0, HIGH);
    }

    private static void numbers(String street, int many, int least, int... row) {
        PuddleClaims x = rowOf(street, row);
        Due.due(street + " how many", x.dipped(0, 0, 2, 0, row.length, 1), many);
        Due.due(street + " the least", x.dipped(0, 0, 2, 0, row.length, 2), least);
    }

    private static void howManyNumbers() {
        Due.says("how DEEP (0 .. 60) it might be now: how many such numbers");
        numbers("p09", 3, 0, 0);
        numbers("s09", 2, 0, 0);
        numbers("k09", 5, 0, 0);
        numbers("g09", 5, 0, 0);
        numbers("g09,p00", 7, 0, 0);
        numbers("w09", 2, 0, 0);
        numbers("p09", 3, 0, 0, 0);
        numbers("s09", 2, 0, 0, 0, 0, 0, 0, 0, 0, 0);
        numbers("s09", 1, 8, 7, 6, 5, 4, 3, 2, 1, 0);
        numbers("s09", 1, 9, 8, 7, 6, 5, 4, 3, 2, 1);
        Due.says("how DEEP (0 .. 60) .. (60 and no more)");
        numbers("p09", 1, 60, 58);
        numbers("p09", 0, NONE, 59);
        numbers("p09", 0, NONE, 60);
        numbers("s09", 1, 60, 59);
        numbers("s09", 0, NONE, 60);
        numbers("k09", 1, 60, 56);
        numbers("k09", 0, NONE, 57);
        numbers("w09", 1, 60, 60);
        numbers("w09", 0, NONE, 61);
    }

    private static void theLeast() {
        Due.says("the least; none");
        numbers("p09", 1, 3, 1);
        numbers("w09", 1, 30, 30);
        numbers("w09", 0, NONE, 29);
        numbers("w09", 1, 29, 28);
        numbers("w09", 1, 31, 31, 31, 31, 31, 31, 31, 31, 31);
        numbers("p09", 0, NONE, -1);
        numbers("p09", 0, NONE, 9, 8);
        numbers("p09", 0, NONE, 7, 5, 3, 1, 1);
        numbers("p09", 1, 9, 7, 5, 3, 1, 0, 0, 0, 0);
    }

    private static void nHours() {
        Due.says("a row tells how DEEP a PUDDLE is behind each of the next n HOURS (1 .. 8)");
        PuddleClaims x = rowOf("p020", 18, 16, 14, 12, 10, 8, 6, 5, 4);
        for (int n = 1; n <= 7; n++) {
            Due.due("so far " + n, x.dipped(0, 0, 2, 0, n, 2), 20);
        }
        Due.due("the eighth is not so", x.dipped(0, 0, 2, 0, 8, 2), NONE);
        PuddleClaims odd = rowOf("k020", 18, 14, 12);
        Due.due("in an even hour", odd.dipped(0, 0, 2, 0, 3, 2), NONE);
        odd.hours(1);
        Due.due("in an odd hour", odd.dipped(0, 0, 2, 0, 3, 2), 20);
        Due.due("in an odd hour, from the 16 that it is: plain alone", odd.dipped(0, 0, 2, 1, 2, 0), 1);
        Due.due("in an odd hour, one item", odd.dipped(0, 0, 2, 1, 1, 0), 1 + 4 + 16);
    }

    private static void fromItemOn() {
        Due.says("by n items of a SHEET taken as a row of a LANE, from item i on");
        for (int lane = 0; lane <= 3; lane++) {
            PuddleClaims x = Due.street("p020");
            x.sheet(3, lane, 24);
            for (int k = 0; k < 8; k++) {
                x.item(3, lane, 16 + k, 18 - 2 * k);
            }
            Due.due("the last eight", x.dipped(0, 3, lane, 16, 8, 0), 1);
            Due.due("one too late", x.dipped(0, 3, lane, 17, 8, 0), INDEX);
            Due.due("one too early", x.dipped(0, 3, lane, 15, 8, 0), 0);
            Due.due("the last", x.dipped(0, 3, lane, 23, 1, 2), 6);
            Due.due("behind the last", x.dipped(0, 3, lane, 24, 1, 2), INDEX);
            Due.due("ahead of the first", x.dipped(0, 3, lane, -1, 1, 2), INDEX);
            Due.due("the first", x.dipped(0, 3, lane, 0, 1, 1), 3);
        }
    }

    private static void whatLiesNextToIt() {
        Due.says("DIPPED .. 2 more for each PUDDLE next to it that is DRY");
        // The other one is dry behind the first hour: 4, then 2 and 2 more.
        numbers("g09,p02", 1, 20, 16, 12);
        numbers("g09,p03", 1, 20, 16, 14, 8);
        // A grate of 4 next to it is dry behind the first hour too; by a dry one it is so all the more.
        numbers("g09,g04", 1, 9, 5, 1);
        Due.says("DIPPED (nobody's CLAIM, nothing is changed)");
        PuddleClaims x = rowOf("p09;0", 7);
        Due.due("dipped", x.dipped(0, 0, 2, 0, 1, 0), 1);
        Due.due("nobody has claimed", x.count(5), 0);
        Due.due("the hour", x.count(2), 0);
        x.hours(1);
        Due.due("of a claimed one too", x.dipped(0, 0, 2, 0, 1, 2), 9);
    }

    private static void film() {
        Due.says("How DEEP a PUDDLE is behind 1, 2, .. n HOURS (1 .. 24), an item each, comes to a SHEET likewise: n.");
        for (int lane = 0; lane <= 3; lane++) {
            PuddleClaims x = Due.street("p00,s060,w060");
            x.sheet(1, lane, 24);
            Due.due("one", x.film(1, 1, 1, lane, 0), 1);
            Due.due("behind an hour", x.dipped(2, 1, lane, 0, 1, 0), 2);
            Due.due("the next is as it was", seen(x, 1, lane, 1), 0);
            Due.due("one, to the last", x.film(1, 1, 1, lane, 23), 1);
            Due.due("the last", x.dipped(2, 1, lane, 23, 1, 0), 2);
            Due.due("the last but one is as it was", seen(x, 1, lane, 22), 0);
            Due.due("behind the last", x.film(1, 1, 1, lane, 24), INDEX);
            Due.due("24 from the second on", x.film(1, 24, 1, lane, 1), INDEX);
            Due.due("the second is as it was", seen(x, 1, lane, 1), 0);
            Due.due("all 24", x.film(1, 24, 1, lane, 0), 24);
            for (int i = 2; i < 24; i++) {
                Due.due("item " + i, seen(x, 1, lane, i), 59 - i);
            }
            Due.due("60 all the time", x.film(2, 24, 1, lane, 0), 24);
            Due.due("eight of them", x.dipped(2, 1, lane, 16, 8, 2), 60);
            Due.due("dry all the time", x.film(0, 2, 1, lane, 22), 2);
            Due.due("the last", seen(x, 1, lane, 23), 0);
            Due.due("60 ahead of them", x.dipped(2, 1, lane, 21, 1, 2), 60);
            Due.due("the hour", x.count(2), 0);
            Due.due("nothing is to be undone", x.count(7), 0);
        }
    }
}
