import com.sun.management.ThreadMXBean;
import java.lang.management.ManagementFactory;
import java.util.function.ToIntFunction;

/** All calls of one run live in one room: a new object takes little of it, and no call takes more. */
public final class RoomTest {
    private static final ThreadMXBean MACHINE = (ThreadMXBean) ManagementFactory.getThreadMXBean();
    /** A deed takes up to four calls, and an object is used for at most 512. */
    private static final int OBJECTS = 80, DEEDS = 100;
    /** The smallest object there is takes 16 bytes; the machine's own work may take some now and then. */
    private static final long ONE_A_CALL = 16L * OBJECTS * DEEDS / 2, ONE_OBJECT = 10_000;

    public static void main(String[] args) {
        newObject();
        puddlesAndPeople();
        whatIsDone();
        whatIsForetold();
        theSheets();
        Due.finish();
    }

    /** Seven puddles and six people, so that every search is as long as it may be. */
    private static PuddleClaims street() {
        PuddleClaims x = new PuddleClaims();
        for (int p = 0; p < 7; p++) {
            x.puddle(p % 5, 0, 60 - p);
        }
        for (int q = 0; q < 6; q++) {
            x.person(0, q == 5 ? 20 : q, 30 - q);
        }
        x.sheet(0, 2, 24);
        x.film(4, 8, 0, 2, 0);
        return x;
    }

    private static void newObject() {
        new PuddleClaims();
        long before = MACHINE.getCurrentThreadAllocatedBytes();
        PuddleClaims x = new PuddleClaims();
        long taken = MACHINE.getCurrentThreadAllocatedBytes() - before;
        Due.due("an object without puddles", x.count(0), 0);
        Due.holds("a new object takes " + taken + " bytes", taken < ONE_OBJECT);
    }

    private static void takesNothing(String call, ToIntFunction<PuddleClaims> deed) {
        long taken = 0;
        for (int k = 0; k < OBJECTS; k++) {
            PuddleClaims x = street();
            deed.applyAsInt(x);
            long before = MACHINE.getCurrentThreadAllocatedBytes();
            for (int j = 1; j < DEEDS; j++) {
                deed.applyAsInt(x);
            }
            taken += MACHINE.getCurrentThreadAllocatedBytes() - before;
        }
        Due.holds(call + " makes nothing, took " + taken + " bytes", taken < ONE_A_CALL);
    }

    private static void puddlesAndPeople() {
        takesNothing("puddle", x -> x.puddle(0, 0, 0));
        takesNothing("person", x -> x.person(0, 0, 1));
        takesNothing("show", x -> x.show(0, 1));
        takesNothing("of", x -> x.of(4, 4));
        takesNothing("at", x -> x.at(5, 4));
        takesNothing("type", x -> x.type('p'));
        takesNothing("read", x -> x.type('p') + x.type('7') + x.type('9') + x.read());
        takesNothing("read with a fault", x -> x.type('p') + x.read());
        takesNothing("count", x -> x.count(6));
    }

    private static void whatIsDone() {
        takesNothing("hours", x -> x.hours(20));
        takesNothing("rain", x -> x.rain(1));
        takesNothing("drive", x -> x.rain(9) + x.drive(0));
        takesNothing("send", x -> x.rain(60) + x.hours(1) + x.send(0));
        takesNothing("later", x -> x.later(0, 1) + x.later(0, 2));
        takesNothing("drift", x -> x.drift(20));
        takesNothing("undo", x -> x.rain(1) + x.undo());
        takesNothing("seed", x -> x.seed(7));
    }

    private static void whatIsForetold() {
        takesNothing("ahead", x -> x.ahead(4, 40));
        takesNothing("claims", x -> x.claims(5, 40));
        takesNothing("then", x -> x.then(40));
        takesNothing("served", x -> x.served(5));
        takesNothing("dries", x -> x.dries(3));
        takesNothing("match", PuddleClaims::match);
        takesNothing("latest", x -> x.latest(5));
        takesNothing("order", x -> x.order(30, 5));
        takesNothing("wet", x -> x.wet(30));
        takesNothing("matters", x -> x.matters(30, 0));
        takesNothing("sight", x -> x.sight(6, 30, 0));
        takesNothing("carts", x -> x.carts(5, 5, 0));
        takesNothing("image", PuddleClaims::image);
        takesNothing("restore", x -> x.image() + x.restore());
    }

    private static void theSheets() {
        for (int what = 0; what <= 2; what++) {
            int asked = what;
            takesNothing("dipped " + what, x -> x.dipped(4, 0, 2, 0, 8, asked));
        }
        takesNothing("film", x -> x.film(4, 24, 0, 2, 0));
        takesNothing("sheet", x -> x.sheet(1, 3, 24));
        takesNothing("drop", x -> x.sheet(1, 3, 24) + x.drop(1));
        takesNothing("item", x -> x.item(0, 2, 23, 1L << 40));
        takesNothing("copy", x -> x.copy(0, 0, 0, 1, 23));
    }
}
