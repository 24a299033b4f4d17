import java.util.Arrays;
import java.util.Random;

/**
 * MATCH on streets where many want the same puddles, so that one who is to have his makes others move on.
 * What is due is found another way: of one sight, the least deep puddle goes to whoever needs least.
 */
public final class MatchTest {
    private static final int STREETS = 60_000;

    public static void main(String[] args) {
        Due.says("how many .. could CLAIM a FIT one now, all at once, one each, at most");
        whenAllFindTheirs();
        whenNotAllFindTheirs();
        for (int k = 0; k < STREETS; k++) {
            crowded(new Random(k), k);
        }
        Due.finish();
    }

    /** Side by side, sorted, each depth is as great as a need. */
    private static void whenAllFindTheirs() {
        many("p04,p02,p04,p01;0/1,0/2,0/4,0/3", 4);
        many("p03,p03,p02,p04;0/1,0/3,0/3,0/3", 4);
        many("p05,p05,p05,p03,p02;0/1,0/3,0/4,0/4,0/5", 5);
        many("p02,p04,p04,p05,p01;0/2,0/1,0/3,0/2,0/4", 5);
        many("p03,p07,p08,p08,p08,p03;0/7,0/1,0/5,0/2,0/8,0/6", 6);
        many("p03,p05,p04,p08,p01,p06,p01;0/1,0/6,0/5,0/3,0/2,0/7", 6);
    }

    /** Three need 2 or more (3 or more), and only two puddles are so deep; at last, five puddles for six. */
    private static void whenNotAllFindTheirs() {
        many("p03,p04,p01,p01;0/1,0/2,0/4,0/3", 3);
        many("p03,p04,p01,p02;0/1,0/3,0/4,0/3", 3);
        many("p08,p08,p07,p07,p03;0/3,0/4,0/4,0/6,0/4,0/7", 5);
    }

    private static void many(String text, int due) {
        Due.due(text + " match()", Due.street(text).match(), due);
    }

    private static void crowded(Random random, int run) {
        PuddleClaims x = new PuddleClaims();
        int sights = 1 + random.nextInt(2);
        int most = 4 + random.nextInt(5);
        for (int p = 4 + random.nextInt(4); p > 0; p--) {
            x.puddle(random.nextInt(5), random.nextInt(sights), random.nextInt(most + 1));
        }
        for (int q = 4 + random.nextInt(3); q > 0; q--) {
            x.person(random.nextInt(sights), random.nextInt(3), 1 + random.nextInt(most));
        }
        Due.due("street " + run, x.match(), atMost(x, sights));
        x.hours(1);
        Due.due("street " + run + " an hour later", x.match(), atMost(x, sights));
    }

    private static int atMost(PuddleClaims x, int sights) {
        int sum = 0;
        for (int sight = 0; sight < sights; sight++) {
            sum += servedBySorting(depths(x, sight), needs(x, sight));
        }
        return sum;
    }

    /** How deep those are, sorted, that show a sight and that nobody has claimed. */
    private static int[] depths(PuddleClaims x, int sight) {
        int[] all = new int[x.count(0)];
        int many = 0;
        for (int p = 0; p < all.length; p++) {
            if (x.of(p, 1) == sight && x.of(p, 3) == PuddleClaims.NONE) {
                all[many++] = x.of(p, 2);
            }
        }
        return sorted(all, many);
    }

    /** What those need, sorted, who lost a sight and have claimed none. */
    private static int[] needs(PuddleClaims x, int sight) {
        int[] all = new int[x.count(1)];
        int many = 0;
        for (int q = 0; q < all.length; q++) {
            if (x.at(q, 0) == sight && x.at(q, 3) == PuddleClaims.NONE) {
                all[many++] = x.at(q, 2);
            }
        }
        return sorted(all, many);
    }

    private static int[] sorted(int[] all, int many) {
        int[] some = Arrays.copyOf(all, many);
        Arrays.sort(some);
        return some;
    }

    private static int servedBySorting(int[] depths, int[] needs) {
        int served = 0;
        for (int depth : depths) {
            if (served < needs.length && depth >= needs[served]) {
                served++;
            }
        }
        return served;
    }
}
