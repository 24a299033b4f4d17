import java.util.Random;

/** Random runs of calls, all of the face among them, on the program and on Model: every answer is the same. */
public final class ModelTest {
    private static final int RUNS = 800, CALLS = 405;
    private static final int[] WILD = {-1, -2, 7, 8, 9, 21, 24, 25, 31, 41, 61, 127, 1000, Integer.MIN_VALUE, Integer.MAX_VALUE};
    /** Calls that make things, or are cheap, are drawn more often than those that Model answers slowly. */
    private static final String[] NAMES = {
        "puddle", "puddle", "person", "person", "show", "show", "of", "of", "at", "at", "type", "read", "morning",
        "count", "count", "count", "hours", "hours", "hours", "rain", "rain", "drive", "drive", "send", "send",
        "later", "later", "drift", "drift", "undo", "undo", "undo", "seed", "ahead", "claims", "then", "served",
        "dries", "match", "match", "latest", "order", "wet", "matters", "sight", "carts", "carts", "image", "restore",
        "dipped", "dipped", "dipped", "film", "film", "sheet", "drop", "item", "item", "copy", "copy"};

    private final Random random;
    private final PuddleClaims x = new PuddleClaims();
    private final Model m = new Model();
    private final StringBuilder trace = new StringBuilder();
    private final int orderLimit;

    private ModelTest(long seed) {
        random = new Random(seed);
        orderLimit = seed % 10 == 0 ? 4 : 1;
    }

    public static void main(String[] args) {
        for (int run = 0; run < RUNS; run++) {
            if (!new ModelTest(run).passes(run)) {
                break;
            }
        }
        Due.finish();
    }

    private boolean passes(int run) {
        return run % 3 == 0 ? freshStreetPasses(run) : manyCallsPass(run);
    }

    /** All that is foretold of a street on which there is something to be had still. */
    private boolean freshStreetPasses(int run) {
        boolean isSame = true;
        for (int p = 2 + random.nextInt(6); p > 0; p--) {
            isSame &= same(run, "puddle");
        }
        for (int q = 2 + random.nextInt(5); q > 0; q--) {
            isSame &= same(run, "person");
        }
        for (int k = random.nextInt(3); k > 0; k--) {
            isSame &= same(run, random.nextInt(2) == 0 ? "hours" : "rain");
        }
        for (int sheet = 0; sheet < 4; sheet++) {
            isSame &= tell(run, "sheet", x.sheet(sheet, sheet, 24), m.sheet(sheet, sheet, 24), sheet, sheet, 24);
        }
        int n = 1 + random.nextInt(random.nextInt(2) == 0 ? 8 : 30);
        for (int k = -1; k < m.now.people.size() && k < 2 * random.nextInt(3); k++) {
            isSame &= tell(run, "order", x.order(n, k), m.order(n, k), n, k);
        }
        for (int k = 0; k < 60; k++) {
            String name = NAMES[NAMES.length - 28 + random.nextInt(28)];
            isSame &= name.equals("order") || name.equals("restore") || same(run, name);
        }
        return isSame;
    }

    private boolean manyCallsPass(int run) {
        int orders = 0;
        for (int k = 0; k < CALLS; k++) {
            String name = NAMES[random.nextInt(NAMES.length)];
            if (name.equals("morning")) {
                if (random.nextInt(4) == 0) {
                    k += text();
                }
                continue;
            }
            if (name.equals("order") && ++orders > orderLimit) {
                continue;
            }
            if ((name.equals("puddle") || name.equals("person")) && k > 60 && random.nextInt(4) > 0) {
                continue;
            }
            if (!same(run, name)) {
                return false;
            }
        }
        return true;
    }

    private int to(int most) {
        return random.nextInt(60) == 0 ? WILD[random.nextInt(WILD.length)] : random.nextInt(most + 1);
    }

    private int from(int least, int most) {
        return random.nextInt(60) == 0 ? WILD[random.nextInt(WILD.length)] : least + random.nextInt(most - least + 1);
    }

    private int puddleNumber() {
        return to(Math.max(0, m.now.puddles.size() - 1));
    }

    private int personNumber() {
        return to(Math.max(0, m.now.people.size() - 1));
    }

    /** Few sights, so that people want the same puddles. */
    private int someSight() {
        return random.nextInt(6) == 0 ? to(7) : random.nextInt(3);
    }

    private int needed() {
        return random.nextInt(3) == 0 ? from(1, 30) : from(1, 9);
    }

    /** A lane that is mostly the sheet's own. */
    private int laneOf(int sheet) {
        if (sheet < 0 || sheet > 3 || random.nextInt(5) == 0) {
            return to(3);
        }
        Object row = m.sheets[sheet];
        return row instanceof byte[] ? 0 : row instanceof short[] ? 1 : row instanceof int[] ? 2 : 3;
    }

    private boolean same(int run, String name) {
        int a;
        int b;
        int c;
        int d;
        int e;
        int f;
        switch (name) {
            case "puddle": a = to(4); b = someSight(); c = to(60); return tell(run, name, x.puddle(a, b, c), m.puddle(a, b, c), a, b, c);
            case "person": a = someSight(); b = to(20); c = needed(); return tell(run, name, x.person(a, b, c), m.person(a, b, c), a, b, c);
            case "show": a = puddleNumber(); b = someSight(); return tell(run, name, x.show(a, b), m.show(a, b), a, b);
            case "of": a = puddleNumber(); b = to(4); return tell(run, name, x.of(a, b), m.of(a, b), a, b);
            case "at": a = personNumber(); b = to(4); return tell(run, name, x.at(a, b), m.at(a, b), a, b);
            case "type": a = from(31, 127); return tell(run, name, x.type(a), m.type(a), a);
            case "read": return tell(run, name, x.read(), m.read());
            case "count": a = to(7); return tell(run, name, x.count(a), m.count(a), a);
            case "hours": a = random.nextInt(8) == 0 ? from(1, 40) : from(1, 3); return tell(run, name, x.hours(a), m.hours(a), a);
            case "rain": a = from(1, 60); return tell(run, name, x.rain(a), m.rain(a), a);
            case "drive": a = puddleNumber(); return tell(run, name, x.drive(a), m.drive(a), a);
            case "send": a = personNumber(); return tell(run, name, x.send(a), m.send(a), a);
            case "later": a = personNumber(); b = to(20); return tell(run, name, x.later(a, b), m.later(a, b), a, b);
            case "drift": a = random.nextInt(8) == 0 ? from(1, 40) : from(1, 3); return tell(run, name, x.drift(a), m.drift(a), a);
            case "undo": return tell(run, name, x.undo(), m.undo());
            case "seed": a = random.nextInt(); return tell(run, name, x.seed(a), m.seed(a), a);
            case "ahead": a = puddleNumber(); b = to(40); return tell(run, name, x.ahead(a, b), m.ahead(a, b), a, b);
            case "claims": a = personNumber(); b = to(40); return tell(run, name, x.claims(a, b), m.claims(a, b), a, b);
            case "then": a = to(40); return tell(run, name, x.then(a), m.then(a), a);
            case "served": a = personNumber(); return tell(run, name, x.served(a), m.served(a), a);
            case "dries": a = puddleNumber(); return tell(run, name, x.dries(a), m.dries(a), a);
            case "match": return tell(run, name, x.match(), m.match());
            case "latest": a = personNumber(); return tell(run, name, x.latest(a), m.latest(a), a);
            case "order": a = random.nextInt(3) == 0 ? from(1, 30) : from(1, 6); b = from(-1, 5); return tell(run, name, x.order(a, b), m.order(a, b), a, b);
            case "wet": a = from(1, 30); return tell(run, name, x.wet(a), m.wet(a), a);
            case "matters": a = from(1, 30); b = to(1); return tell(run, name, x.matters(a, b), m.matters(a, b), a, b);
            case "sight": a = puddleNumber(); b = from(1, 30); c = to(1); return tell(run, name, x.sight(a, b, c), m.sight(a, b, c), a, b, c);
            case "carts": a = personNumber(); b = to(10); c = to(1); return tell(run, name, x.carts(a, b, c), m.carts(a, b, c), a, b, c);
            case "image": return tell(run, name, x.image(), m.image());
            case "restore": return tell(run, name, x.restore(), m.restore());
            case "dipped":
                a = puddleNumber(); b = to(3); c = laneOf(b); d = from(-1, 12); e = from(1, 8); f = to(2);
                // Rows that a puddle was filmed in are mostly dipped from their beginning.
                d = random.nextInt(2) == 0 ? 0 : d;
                return tell(run, name, x.dipped(a, b, c, d, e, f), m.dipped(a, b, c, d, e, f), a, b, c, d, e, f);
            case "film":
                a = puddleNumber(); b = from(1, 24); c = to(3); d = laneOf(c); e = random.nextInt(2) == 0 ? 0 : from(-1, 24);
                return tell(run, name, x.film(a, b, c, d, e), m.film(a, b, c, d, e), a, b, c, d, e);
            case "sheet": a = to(3); b = to(3); c = from(-1, 25); return tell(run, name, x.sheet(a, b, c), m.sheet(a, b, c), a, b, c);
            case "drop": a = to(3); return random.nextInt(3) > 0 || tell(run, name, x.drop(a), m.drop(a), a);
            case "item":
                a = to(3); b = laneOf(a); c = from(-1, 24);
                long v = random.nextInt(3) == 0 ? random.nextLong() & ~255L | random.nextInt(61) : random.nextInt(61);
                return tell(run, name, x.item(a, b, c, v), m.item(a, b, c, v), a, b, c, v);
            default:
                a = to(3); b = from(-1, 12); c = to(3); d = from(-1, 12); e = from(-1, 12);
                return tell(run, name, x.copy(a, b, c, d, e), m.copy(a, b, c, d, e), a, b, c, d, e);
        }
    }

    private boolean tell(int run, String name, int got, int want, long... arguments) {
        StringBuilder call = new StringBuilder(name).append('(');
        for (int k = 0; k < arguments.length; k++) {
            call.append(k == 0 ? "" : ", ").append(arguments[k]);
        }
        call.append(')');
        trace.append(call).append(" = ").append(want).append('\n');
        if (got != want) {
            System.out.print(trace);
        }
        Due.due("run " + run + ": " + call, got, want);
        return got == want;
    }

    /** A text for the tape, right or nearly right: how many calls it took. */
    private int text() {
        StringBuilder text = new StringBuilder();
        int puddles = 1 + random.nextInt(random.nextInt(10) == 0 ? 9 : 7);
        for (int p = 0; p < puddles; p++) {
            text.append(p == 0 ? "" : ",").append("pskwg".charAt(random.nextInt(5))).append(random.nextInt(3)).append(number(60));
        }
        int people = random.nextInt(8) == 0 ? 0 : 1 + random.nextInt(random.nextInt(10) == 0 ? 8 : 6);
        for (int q = 0; q < people; q++) {
            text.append(q == 0 ? ";" : ",").append(random.nextInt(3));
            text.append(random.nextInt(2) == 0 ? "" : "@" + number(20));
            text.append(random.nextInt(2) == 0 ? "" : "/" + Math.max(1, random.nextInt(31)));
        }
        for (int faults = random.nextInt(3) - 1; faults > 0; faults--) {
            int place = random.nextInt(text.length());
            switch (random.nextInt(3)) {
                case 0: text.deleteCharAt(place); break;
                case 1: text.insert(place, "pskwg,;@/0123456789 ~".charAt(random.nextInt(21))); break;
                default: text.setCharAt(place, "pskwg,;@/0123456789 ~".charAt(random.nextInt(21)));
            }
        }
        if (random.nextInt(2) == 0) {
            for (int blanks = random.nextInt(6); blanks > 0; blanks--) {
                text.insert(random.nextInt(text.length() + 1), ' ');
            }
        }
        tell(-1, "read", x.read(), m.read());
        for (int k = 0; k < text.length(); k++) {
            int letter = text.charAt(k);
            tell(-1, "type", x.type(letter), m.type(letter), letter);
        }
        tell(-1, "read of " + text, x.read(), m.read());
        return text.length() + 2;
    }

    private String number(int most) {
        int v = random.nextInt(most + 1);
        return v < 10 && random.nextInt(3) == 0 ? "0" + v : Integer.toString(v);
    }
}
