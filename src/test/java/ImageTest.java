/** Promises 30 and 31: an image, and all as it was then. */
public final class ImageTest {
    public static void main(String[] args) {
        allIsAsItWas();
        whatMayBeUndoneIsToo();
        sheetsAndTheTapeStay();
        aLaterImage();
        Due.finish();
    }

    private static void allIsAsItWas() {
        PuddleClaims x = Due.street("p19,k230;1,2@3/4");
        x.seed(44);
        x.hours(1);
        Due.due("image", x.image(), 1);
        x.show(0, 7);
        x.later(1, 0);
        x.seed(3);
        x.drift(5);
        x.send(0);
        x.puddle(4, 4, 4);
        x.person(5, 5, 5);
        Due.due("restore", x.restore(), 1);
        int[] counts = {2, 2, 1, 33, 0, 1, 1, 1};
        for (int what = 0; what <= 7; what++) {
            Due.due("count " + what, x.count(what), counts[what]);
        }
        Due.due("shows", x.of(0, 1), 1);
        Due.due("comes", x.at(1, 1), 3);
        Due.due("claimed", x.at(0, 3), 0);
        Due.due("the draw", x.seed(1), 44);
        Due.morning(x, "s00");
        Due.due("once more", x.restore(), 1);
        Due.due("kind", x.of(1, 0), 2);
        Due.due("needs", x.at(1, 2), 4);
        Due.due("the draw", x.seed(1), 44);
    }

    private static void whatMayBeUndoneIsToo() {
        PuddleClaims x = Due.street("s060");
        x.hours(10);
        x.image();
        x.undo();
        x.undo();
        x.rain(30);
        x.hours(9);
        x.restore();
        Due.due("what may be undone", x.count(7), 8);
        for (int k = 7; k >= 0; k--) {
            Due.due("undo", x.undo(), k);
            Due.due("the hour", x.count(2), k + 2);
            Due.due("deep", x.of(0, 2), 58 - k);
        }
        x.restore();
        Due.due("the image is not touched by it", x.undo(), 7);
        Due.due("the hour", x.count(2), 9);
    }

    private static void sheetsAndTheTapeStay() {
        PuddleClaims x = Due.street("s060");
        x.sheet(0, 1, 3);
        x.type('p');
        x.image();
        x.sheet(1, 1, 4);
        x.drop(0);
        x.type('0');
        x.restore();
        Due.due("dropped still", x.drop(0), PuddleClaims.NULL);
        Due.due("there still", x.drop(1), 4);
        Due.due("the tape goes on", x.type('0'), 3);
    }

    private static void aLaterImage() {
        PuddleClaims x = Due.street("s060");
        x.image();
        x.hours(2);
        Due.due("image", x.image(), 1);
        x.hours(2);
        x.restore();
        Due.due("the later one", x.count(2), 2);
        PuddleClaims empty = new PuddleClaims();
        Due.due("an image of nothing", empty.image(), 1);
        empty.puddle(0, 0, 0);
        Due.due("restore", empty.restore(), 1);
        Due.due("nothing", empty.count(0), 0);
    }
}
