/**
 * Puddles that lie unclaimed in a street, and the people who come for what is seen in them.
 * README.md says how to use it; the numbered promises of the document say what each call answers.
 */
public final class PuddleClaims {
    public static final int BAD = -1, NOT = -2, FULL = -3, NONE = -4, NULL = -11, CAST = -12, INDEX = -13, SIZE = -14;

    private static final int MOST_HOURS = 40, LAST_HOUR = 9999;
    private static final int MOST_PLANNED = 30, MOST_DIPPED = 8;
    private static final int CART_PARTS = 10;

    private final Street now;
    private final History past;
    /** What is foretold or read is tried here, so that no call has to make a street of its own. */
    private final Street draft;
    private final Street imageStreet;
    private final History imagePast;
    private boolean hasImage;
    private final Tape tape;
    private final Sheets sheets;
    private final Matching matching;
    private final Orders orders;

    public PuddleClaims() {
        now = new Street();
        past = new History();
        draft = new Street();
        imageStreet = new Street();
        imagePast = new History();
        hasImage = false;
        tape = new Tape();
        sheets = new Sheets();
        matching = new Matching();
        orders = new Orders();
    }

    // ---- 1 puddles, people

    public int puddle(int kind, int sight, int deep) {
        if (!within(kind, 0, Street.KINDS - 1) || !isSight(sight) || !within(deep, 0, Street.BRIM)) {
            return BAD;
        }
        int number = now.addPuddle(kind, sight, deep);
        if (number >= 0) {
            past.forget();
        }
        return number;
    }

    public int person(int lost, int comes, int needs) {
        if (!isSight(lost) || !isComing(comes) || !within(needs, 1, Street.MOST_NEEDED)) {
            return BAD;
        }
        int number = now.addPerson(lost, comes, needs);
        if (number >= 0) {
            past.forget();
        }
        return number;
    }

    public int show(int puddle, int sight) {
        if (!now.hasPuddle(puddle) || !isSight(sight)) {
            return BAD;
        }
        int before = now.shown[puddle];
        now.shown[puddle] = sight;
        return before;
    }

    public int of(int puddle, int what) {
        if (!now.hasPuddle(puddle)) {
            return BAD;
        }
        switch (what) {
            case 0:
                return now.kind[puddle];
            case 1:
                return now.shown[puddle];
            case 2:
                return now.deep[puddle];
            case 3:
                return now.claimantOf(puddle);
            case 4:
                return now.lessBy(puddle, now.drySet());
            default:
                return BAD;
        }
    }

    public int at(int person, int what) {
        if (!now.hasPerson(person)) {
            return BAD;
        }
        switch (what) {
            case 0:
                return now.lost[person];
            case 1:
                return now.comes[person];
            case 2:
                return now.needs[person];
            case 3:
                return now.claimed[person];
            case 4:
                return now.fitSet(person);
            default:
                return BAD;
        }
    }

    public int type(int letter) {
        return within(letter, 32, 126) ? tape.add((char) letter) : BAD;
    }

    public int read() {
        int fault = tape.parse(draft);
        if (fault != 0) {
            return fault;
        }
        draft.draw = now.draw;
        now.copyFrom(draft);
        past.forget();
        return now.puddles;
    }

    public int count(int what) {
        switch (what) {
            case 0:
                return now.puddles;
            case 1:
                return now.people;
            case 2:
                return now.hour;
            case 3:
                return now.depthOfAll();
            case 4:
                return now.drySet();
            case 5:
                return now.claimants();
            case 6:
                return now.claimedSet();
            case 7:
                return past.known;
            default:
                return BAD;
        }
    }

    // ---- what is done

    public int hours(int n) {
        return passHours(n, false);
    }

    public int rain(int n) {
        if (!within(n, 1, Street.BRIM)) {
            return BAD;
        }
        past.remember(now);
        now.deepen(n);
        return now.depthOfAll();
    }

    public int drive(int puddle) {
        if (!now.hasPuddle(puddle)) {
            return BAD;
        }
        if (now.isDry(puddle)) {
            return NOT;
        }
        past.remember(now);
        now.halve(puddle);
        return now.deep[puddle];
    }

    public int send(int person) {
        if (!now.hasPerson(person)) {
            return BAD;
        }
        if (!now.hasClaimed(person)) {
            return NOT;
        }
        past.remember(now);
        int had = now.claimed[person];
        now.claimed[person] = NONE;
        return had;
    }

    public int later(int person, int comes) {
        if (!now.hasPerson(person) || !isComing(comes)) {
            return BAD;
        }
        if (now.comes[person] == comes) {
            return NOT;
        }
        past.remember(now);
        int before = now.comes[person];
        now.comes[person] = comes;
        return before;
    }

    public int drift(int n) {
        return passHours(n, true);
    }

    public int undo() {
        return past.recall(now) ? past.known : NONE;
    }

    public int seed(int v) {
        if (v < 0) {
            return BAD;
        }
        int before = now.draw;
        now.draw = v;
        return before;
    }

    // ---- 2 foretold

    public int ahead(int puddle, int n) {
        if (!now.hasPuddle(puddle) || !within(n, 0, MOST_HOURS)) {
            return BAD;
        }
        draft.copyFrom(now);
        for (int k = 0; k < n; k++) {
            draft.passHour();
        }
        return draft.deep[puddle];
    }

    public int claims(int person, int n) {
        if (!now.hasPerson(person) || !within(n, 0, MOST_HOURS)) {
            return BAD;
        }
        draft.copyFrom(now);
        draft.claimantsBehind(n);
        return draft.claimed[person];
    }

    public int then(int n) {
        if (!within(n, 0, MOST_HOURS)) {
            return BAD;
        }
        draft.copyFrom(now);
        return draft.claimantsBehind(n);
    }

    public int served(int person) {
        if (!now.hasPerson(person)) {
            return BAD;
        }
        draft.copyFrom(now);
        for (int n = 0; n <= MOST_HOURS; n++) {
            if (draft.hasClaimed(person)) {
                return n;
            }
            draft.passHour();
        }
        return NONE;
    }

    public int dries(int puddle) {
        if (!now.hasPuddle(puddle)) {
            return BAD;
        }
        draft.copyFrom(now);
        for (int n = 0; n <= MOST_HOURS; n++) {
            if (draft.isDry(puddle)) {
                return n;
            }
            draft.passHour();
        }
        return NONE;
    }

    public int match() {
        return matching.greatest(now);
    }

    public int latest(int person) {
        if (!now.hasPerson(person)) {
            return BAD;
        }
        for (int comes = Street.LAST_COMING; comes >= 0; comes--) {
            draft.copyFrom(now);
            draft.comes[person] = comes;
            draft.claimantsBehind(MOST_HOURS);
            if (draft.hasClaimed(person)) {
                return comes;
            }
        }
        return NONE;
    }

    public int order(int n, int k) {
        if (!within(n, 1, MOST_PLANNED) || k < -1) {
            return BAD;
        }
        draft.copyFrom(now);
        orders.search(draft, n);
        return k == -1 ? orders.most : orders.nth(k);
    }

    public int wet(int n) {
        if (!within(n, 1, MOST_PLANNED)) {
            return BAD;
        }
        for (int fallen = 0; fallen <= Street.BRIM; fallen++) {
            draft.copyFrom(now);
            draft.deepen(fallen);
            if (Integer.bitCount(draft.claimantsBehind(n)) == now.people) {
                return fallen;
            }
        }
        return NONE;
    }

    public int matters(int n, int what) {
        if (!within(n, 1, MOST_PLANNED) || !within(what, 0, 1)) {
            return BAD;
        }
        int best = NONE;
        int fewest = NONE;
        for (int p = 0; p < now.puddles; p++) {
            draft.copyFrom(now);
            draft.deep[p] = 0;
            int having = Integer.bitCount(draft.claimantsBehind(n));
            if (best < 0 || having < fewest) {
                best = p;
                fewest = having;
            }
        }
        return what == 0 ? best : fewest;
    }

    public int sight(int puddle, int n, int what) {
        if (!now.hasPuddle(puddle) || !within(n, 1, MOST_PLANNED) || !within(what, 0, 1)) {
            return BAD;
        }
        int best = 0;
        int most = -1;
        for (int seen = 0; seen < Street.SIGHTS; seen++) {
            draft.copyFrom(now);
            draft.shown[puddle] = seen;
            int having = Integer.bitCount(draft.claimantsBehind(n));
            if (having > most) {
                best = seen;
                most = having;
            }
        }
        return what == 0 ? best : most;
    }

    public int carts(int person, int c, int what) {
        if (!now.hasPerson(person) || !within(c, 0, CART_PARTS) || !within(what, 0, 1)) {
            return BAD;
        }
        int above = 0;
        for (int driven = 0; driven < 1 << now.puddles; driven++) {
            int weight = weightOf(driven, c);
            if (weight > 0 && hasClaimedBehindCarts(person, driven)) {
                above += weight;
            }
        }
        int below = weightOfAll();
        int divisor = commonDivisor(above, below);
        return divisor < 1 ? BAD : (what == 0 ? above : below) / divisor;
    }

    public int image() {
        imageStreet.copyFrom(now);
        imagePast.copyFrom(past);
        hasImage = true;
        return 1;
    }

    public int restore() {
        if (!hasImage) {
            return NONE;
        }
        now.copyFrom(imageStreet);
        past.copyFrom(imagePast);
        return 1;
    }

    // ---- 3 sheets

    public int dipped(int puddle, int sheet, int lane, int i, int n, int what) {
        if (!now.hasPuddle(puddle) || !Sheets.isSheet(sheet) || !Sheets.isLane(lane)) {
            return BAD;
        }
        if (!within(n, 1, MOST_DIPPED) || !within(what, 0, 2)) {
            return BAD;
        }
        int refused = sheets.refusal(sheet, lane, i, n);
        if (refused != 0) {
            return refused;
        }
        return what == 0 ? kindsDipped(puddle, sheet, i, n) : depthsDipped(puddle, sheet, i, n, what == 2);
    }

    public int film(int puddle, int n, int sheet, int lane, int i) {
        if (!now.hasPuddle(puddle) || !within(n, 1, Sheets.MOST_ITEMS)) {
            return BAD;
        }
        if (!Sheets.isSheet(sheet) || !Sheets.isLane(lane)) {
            return BAD;
        }
        int refused = sheets.refusal(sheet, lane, i, n);
        if (refused != 0) {
            return refused;
        }
        draft.copyFrom(now);
        for (int k = 0; k < n; k++) {
            draft.passHour();
            sheets.put(sheet, i + k, draft.deep[puddle]);
        }
        return n;
    }

    public int sheet(int sheet, int lane, int n) {
        if (!Sheets.isSheet(sheet) || !Sheets.isLane(lane) || n > Sheets.MOST_ITEMS) {
            return BAD;
        }
        if (n < 0) {
            return SIZE;
        }
        sheets.renew(sheet, lane, n);
        return n;
    }

    public int drop(int sheet) {
        if (!Sheets.isSheet(sheet)) {
            return BAD;
        }
        if (!sheets.isHeld(sheet)) {
            return NULL;
        }
        return sheets.clear(sheet);
    }

    public int item(int sheet, int lane, int i, long v) {
        if (!Sheets.isSheet(sheet) || !Sheets.isLane(lane)) {
            return BAD;
        }
        int refused = sheets.refusal(sheet, lane, i, 1);
        if (refused != 0) {
            return refused;
        }
        sheets.put(sheet, i, v);
        return 1;
    }

    public int copy(int from, int i, int to, int j, int n) {
        if (!Sheets.isSheet(from) || !Sheets.isSheet(to)) {
            return BAD;
        }
        if (!sheets.isHeld(from) || !sheets.isHeld(to)) {
            return NULL;
        }
        if (sheets.lanes[from] != sheets.lanes[to]) {
            return CAST;
        }
        if (!sheets.holds(from, i, n) || !sheets.holds(to, j, n)) {
            return INDEX;
        }
        sheets.move(from, i, to, j, n);
        return n;
    }

    // ---- what several calls share

    private static boolean within(int v, int least, int most) {
        return v >= least && v <= most;
    }

    private static boolean isSight(int v) {
        return within(v, 0, Street.SIGHTS - 1);
    }

    private static boolean isComing(int v) {
        return within(v, 0, Street.LAST_COMING);
    }

    private int passHours(int n, boolean withCarts) {
        if (!within(n, 1, MOST_HOURS)) {
            return BAD;
        }
        if (now.hour > LAST_HOUR - n) {
            return FULL;
        }
        for (int k = 0; k < n; k++) {
            past.remember(now);
            if (withCarts) {
                now.drawCart();
            }
            now.passHour();
        }
        return now.claimants();
    }

    /** How many of weightOfAll() parts fall on just these puddles being driven through; a dry one never is. */
    private int weightOf(int driven, int c) {
        int weight = 1;
        for (int p = 0; p < now.puddles; p++) {
            boolean isDriven = (driven >> p & 1) != 0;
            if (now.isDry(p)) {
                weight = isDriven ? 0 : weight;
            } else {
                weight *= isDriven ? c : CART_PARTS - c;
            }
        }
        return weight;
    }

    private int weightOfAll() {
        int weight = 1;
        for (int p = 0; p < now.puddles; p++) {
            weight *= now.isDry(p) ? 1 : CART_PARTS;
        }
        return weight;
    }

    private boolean hasClaimedBehindCarts(int person, int driven) {
        draft.copyFrom(now);
        for (int p = 0; p < draft.puddles; p++) {
            if ((driven >> p & 1) != 0) {
                draft.halve(p);
            }
        }
        draft.passHour();
        return draft.hasClaimed(person);
    }

    private static int commonDivisor(int a, int b) {
        int greater = a;
        int less = b;
        // Of ints no pair needs as many steps as 64.
        for (int k = 0; k < 64 && less != 0; k++) {
            int rest = greater % less;
            greater = less;
            less = rest;
        }
        return greater;
    }

    private int kindsDipped(int puddle, int sheet, int i, int n) {
        int kinds = 0;
        for (int kind = 0; kind < Street.KINDS; kind++) {
            draft.copyFrom(now);
            draft.kind[puddle] = kind;
            if (draftAgrees(puddle, sheet, i, n)) {
                kinds |= 1 << kind;
            }
        }
        return kinds;
    }

    private int depthsDipped(int puddle, int sheet, int i, int n, boolean isLeastAsked) {
        int found = 0;
        int least = NONE;
        for (int depth = 0; depth <= Street.BRIM; depth++) {
            draft.copyFrom(now);
            draft.deep[puddle] = depth;
            if (draftAgrees(puddle, sheet, i, n)) {
                least = found == 0 ? depth : least;
                found++;
            }
        }
        return isLeastAsked ? least : found;
    }

    private boolean draftAgrees(int puddle, int sheet, int i, int n) {
        for (int k = 0; k < n; k++) {
            draft.passHour();
            if (sheets.valueAt(sheet, i + k) != draft.deep[puddle]) {
                return false;
            }
        }
        return true;
    }

    /** The puddles, the people, the hour and the draw. */
    private static final class Street {
        static final int MOST_PUDDLES = 7, MOST_PEOPLE = 6, SIGHTS = 8, BRIM = 60;
        static final int LAST_COMING = 20, MOST_NEEDED = 30;
        static final int PLAIN = 0, SHADY = 1, KERB = 2, WELL = 3, GRATE = 4, KINDS = 5;
        private static final int PLAIN_LOSS = 2, NEIGHBOUR_LOSS = 2, WELL_KEEPS = 30;
        private static final int LOWEST_31_BITS = 0x7fffffff;

        final int[] kind = new int[MOST_PUDDLES];
        final int[] shown = new int[MOST_PUDDLES];
        final int[] deep = new int[MOST_PUDDLES];
        final int[] lost = new int[MOST_PEOPLE];
        final int[] comes = new int[MOST_PEOPLE];
        final int[] needs = new int[MOST_PEOPLE];
        /** A puddle's number, or NONE. */
        final int[] claimed = new int[MOST_PEOPLE];
        int puddles = 0;
        int people = 0;
        int hour = 0;
        int draw = 1;

        void copyFrom(Street other) {
            System.arraycopy(other.kind, 0, kind, 0, MOST_PUDDLES);
            System.arraycopy(other.shown, 0, shown, 0, MOST_PUDDLES);
            System.arraycopy(other.deep, 0, deep, 0, MOST_PUDDLES);
            System.arraycopy(other.lost, 0, lost, 0, MOST_PEOPLE);
            System.arraycopy(other.comes, 0, comes, 0, MOST_PEOPLE);
            System.arraycopy(other.needs, 0, needs, 0, MOST_PEOPLE);
            System.arraycopy(other.claimed, 0, claimed, 0, MOST_PEOPLE);
            puddles = other.puddles;
            people = other.people;
            hour = other.hour;
            draw = other.draw;
        }

        void empty() {
            puddles = 0;
            people = 0;
            hour = 0;
        }

        /** Its number, or FULL. */
        int addPuddle(int ofKind, int sight, int depth) {
            if (puddles >= MOST_PUDDLES) {
                return FULL;
            }
            kind[puddles] = ofKind;
            shown[puddles] = sight;
            deep[puddles] = depth;
            puddles++;
            return puddles - 1;
        }

        /** Its number, or FULL. */
        int addPerson(int sight, int coming, int needed) {
            if (people >= MOST_PEOPLE) {
                return FULL;
            }
            lost[people] = sight;
            comes[people] = coming;
            needs[people] = needed;
            claimed[people] = NONE;
            people++;
            return people - 1;
        }

        boolean hasPuddle(int p) {
            return p >= 0 && p < puddles;
        }

        boolean hasPerson(int q) {
            return q >= 0 && q < people;
        }

        boolean isDry(int p) {
            return deep[p] == 0;
        }

        boolean hasClaimed(int q) {
            return claimed[q] >= 0;
        }

        int drySet() {
            int set = 0;
            for (int p = 0; p < puddles; p++) {
                set |= isDry(p) ? 1 << p : 0;
            }
            return set;
        }

        int claimants() {
            int set = 0;
            for (int q = 0; q < people; q++) {
                set |= hasClaimed(q) ? 1 << q : 0;
            }
            return set;
        }

        int claimedSet() {
            int set = 0;
            for (int q = 0; q < people; q++) {
                set |= hasClaimed(q) ? 1 << claimed[q] : 0;
            }
            return set;
        }

        int claimantOf(int p) {
            for (int q = 0; q < people; q++) {
                if (claimed[q] == p) {
                    return q;
                }
            }
            return NONE;
        }

        int depthOfAll() {
            int sum = 0;
            for (int p = 0; p < puddles; p++) {
                sum += deep[p];
            }
            return sum;
        }

        int fitSet(int q) {
            int taken = claimedSet();
            int set = 0;
            for (int p = 0; p < puddles; p++) {
                set |= isFit(p, q, taken, deep[p]) ? 1 << p : 0;
            }
            return set;
        }

        private boolean isFit(int p, int q, int taken, int depth) {
            return shown[p] == lost[q] && depth >= needs[q] && (taken >> p & 1) == 0;
        }

        /** The deepest fit puddle, or NONE; the depths stand in a row from an item on. */
        int deepestFit(int q, int taken, int[] depths, int from) {
            int best = NONE;
            for (int p = 0; p < puddles; p++) {
                int depth = depths[from + p];
                if (isFit(p, q, taken, depth) && (best < 0 || depth > depths[from + best])) {
                    best = p;
                }
            }
            return best;
        }

        /** What an hour takes from a puddle, even if less is in it; dry: the set of those that are. */
        int lessBy(int p, int dry) {
            switch (kind[p]) {
                case SHADY:
                    return shadyLoss();
                case KERB:
                    return kerbLoss();
                case WELL:
                    return deep[p] >= WELL_KEEPS ? 0 : shadyLoss();
                case GRATE:
                    return kerbLoss() + NEIGHBOUR_LOSS * Integer.bitCount(dry & neighbours(p));
                default:
                    return PLAIN_LOSS;
            }
        }

        private static int shadyLoss() {
            return PLAIN_LOSS / 2;
        }

        private int kerbLoss() {
            return hour % 2 == 0 ? 2 * PLAIN_LOSS : PLAIN_LOSS;
        }

        private static int neighbours(int p) {
            int self = 1 << p;
            return self << 1 | self >> 1;
        }

        void passHour() {
            letClaim();
            lessen();
        }

        private void letClaim() {
            for (int q = 0; q < people; q++) {
                if (comes[q] <= hour && !hasClaimed(q)) {
                    claimed[q] = deepestFit(q, claimedSet(), deep, 0);
                }
            }
        }

        /** The part of an hour behind the claims; which puddles are dry is taken ahead of all of it. */
        void lessen() {
            int dry = drySet();
            for (int p = 0; p < puddles; p++) {
                deep[p] = Math.max(0, deep[p] - lessBy(p, dry));
            }
            hour++;
        }

        /**
         * Who has claimed behind n hours; this street is somewhere on the way then.
         * Without rain puddles only get less deep, and nobody is sent home: who found
         * nothing when he came finds nothing later, so the hours may end with the last coming.
         */
        int claimantsBehind(int n) {
            for (int k = 0; k < n; k++) {
                if (k > 0 && !isAnyoneToCome()) {
                    break;
                }
                passHour();
            }
            return claimants();
        }

        private boolean isAnyoneToCome() {
            for (int q = 0; q < people; q++) {
                if (comes[q] >= hour && !hasClaimed(q)) {
                    return true;
                }
            }
            return false;
        }

        void deepen(int n) {
            for (int p = 0; p < puddles; p++) {
                deep[p] = Math.min(BRIM, deep[p] + n);
            }
        }

        void halve(int p) {
            deep[p] /= 2;
        }

        void drawCart() {
            draw = (draw * 1103515245 + 12345) & LOWEST_31_BITS;
            if (puddles > 0 && draw / 65536 % 3 == 0) {
                halve(draw / 128 % puddles);
            }
        }
    }

    /** The last few states of a street, to be undone: what undoing brings back of each, in one ring. */
    private static final class History {
        private static final int ROOM = 8;
        private static final int CLAIMED = Street.MOST_PUDDLES, COMES = CLAIMED + Street.MOST_PEOPLE;
        private static final int HOUR = COMES + Street.MOST_PEOPLE, DRAW = HOUR + 1, WIDTH = DRAW + 1;

        private final int[] ring = new int[ROOM * WIDTH];
        private int next = 0;
        int known = 0;

        void remember(Street street) {
            int from = next * WIDTH;
            System.arraycopy(street.deep, 0, ring, from, Street.MOST_PUDDLES);
            System.arraycopy(street.claimed, 0, ring, from + CLAIMED, Street.MOST_PEOPLE);
            System.arraycopy(street.comes, 0, ring, from + COMES, Street.MOST_PEOPLE);
            ring[from + HOUR] = street.hour;
            ring[from + DRAW] = street.draw;
            next = (next + 1) % ROOM;
            known = Math.min(ROOM, known + 1);
        }

        boolean recall(Street street) {
            if (known == 0) {
                return false;
            }
            known--;
            next = (next + ROOM - 1) % ROOM;
            int from = next * WIDTH;
            System.arraycopy(ring, from, street.deep, 0, Street.MOST_PUDDLES);
            System.arraycopy(ring, from + CLAIMED, street.claimed, 0, Street.MOST_PEOPLE);
            System.arraycopy(ring, from + COMES, street.comes, 0, Street.MOST_PEOPLE);
            street.hour = ring[from + HOUR];
            street.draw = ring[from + DRAW];
            return true;
        }

        void forget() {
            known = 0;
        }

        void copyFrom(History other) {
            System.arraycopy(other.ring, 0, ring, 0, ROOM * WIDTH);
            next = other.next;
            known = other.known;
        }
    }

    /** The letters typed, and how a morning is read from them. */
    private static final class Tape {
        static final int ROOM = 90;
        private static final int FIRST_FAULT = -20;
        private static final String KIND_LETTERS = "pskwg";

        private final char[] letters = new char[ROOM];
        int length = 0;
        private int place = 0;

        /** How many there are then, or FULL. */
        int add(char letter) {
            if (length >= ROOM) {
                return FULL;
            }
            letters[length] = letter;
            length++;
            return length;
        }

        /** Fills a street with the morning: 0, or a fault. The tape is empty then. */
        int parse(Street street) {
            place = 0;
            street.empty();
            int fault = parsePuddles(street);
            if (fault == 0 && take(';')) {
                fault = parsePeople(street);
            }
            if (fault == 0) {
                skipBlanks();
                fault = place < length ? faultAt(place) : 0;
            }
            length = 0;
            return fault;
        }

        private int parsePuddles(Street street) {
            for (int k = 0; k < Street.MOST_PUDDLES; k++) {
                if (k > 0 && !take(',')) {
                    return 0;
                }
                int kind = parseKind();
                if (kind < 0) {
                    return kind;
                }
                int sight = parseSight();
                if (sight < 0) {
                    return sight;
                }
                int depth = parseNumber(0, Street.BRIM);
                if (depth < 0) {
                    return depth;
                }
                street.addPuddle(kind, sight, depth);
            }
            return 0;
        }

        private int parsePeople(Street street) {
            for (int k = 0; k < Street.MOST_PEOPLE; k++) {
                if (k > 0 && !take(',')) {
                    return 0;
                }
                int sight = parseSight();
                if (sight < 0) {
                    return sight;
                }
                int coming = take('@') ? parseNumber(0, Street.LAST_COMING) : 0;
                if (coming < 0) {
                    return coming;
                }
                int needed = take('/') ? parseNumber(1, Street.MOST_NEEDED) : 1;
                if (needed < 0) {
                    return needed;
                }
                street.addPerson(sight, coming, needed);
            }
            return 0;
        }

        private int parseKind() {
            skipBlanks();
            int kind = place < length ? KIND_LETTERS.indexOf(letters[place]) : -1;
            if (kind < 0) {
                return faultAt(place);
            }
            place++;
            return kind;
        }

        private int parseSight() {
            skipBlanks();
            int sight = digitHere();
            if (sight < 0 || sight >= Street.SIGHTS) {
                return faultAt(place);
            }
            place++;
            return sight;
        }

        private int parseNumber(int least, int most) {
            skipBlanks();
            int first = place;
            int number = digitHere();
            if (number < 0) {
                return faultAt(first);
            }
            place++;
            int second = digitHere();
            if (second >= 0) {
                number = 10 * number + second;
                place++;
            }
            return number < least || number > most ? faultAt(first) : number;
        }

        private boolean take(char sign) {
            skipBlanks();
            if (place >= length || letters[place] != sign) {
                return false;
            }
            place++;
            return true;
        }

        private void skipBlanks() {
            while (place < length && letters[place] == ' ') {
                place++;
            }
        }

        /** The digit at this place, or below 0. */
        private int digitHere() {
            if (place >= length || letters[place] < '0' || letters[place] > '9') {
                return -1;
            }
            return letters[place] - '0';
        }

        private static int faultAt(int where) {
            return FIRST_FAULT - where;
        }
    }

    /** Rows of numbers, each cut to the width of its lane as it is put. */
    private static final class Sheets {
        static final int MOST_ITEMS = 24;
        private static final int SHEETS = 4, LANES = 4, NOTHING = -1;

        /** By sheet: its lane, or NOTHING. */
        final int[] lanes = {NOTHING, NOTHING, NOTHING, NOTHING};
        private final int[] sizes = new int[SHEETS];
        private final long[] values = new long[SHEETS * MOST_ITEMS];

        static boolean isSheet(int sheet) {
            return sheet >= 0 && sheet < SHEETS;
        }

        static boolean isLane(int lane) {
            return lane >= 0 && lane < LANES;
        }

        boolean isHeld(int sheet) {
            return lanes[sheet] != NOTHING;
        }

        /** Whether n items from i on are there; written so that no sum can wrap around. */
        boolean holds(int sheet, int i, int n) {
            return i >= 0 && n >= 0 && n <= sizes[sheet] && i <= sizes[sheet] - n;
        }

        /** What the machine would find if n items from i on were used as a lane's; 0: nothing. */
        int refusal(int sheet, int lane, int i, int n) {
            if (!isHeld(sheet)) {
                return NULL;
            }
            if (lanes[sheet] != lane) {
                return CAST;
            }
            return holds(sheet, i, n) ? 0 : INDEX;
        }

        void renew(int sheet, int lane, int n) {
            lanes[sheet] = lane;
            sizes[sheet] = n;
            for (int k = 0; k < n; k++) {
                values[sheet * MOST_ITEMS + k] = 0;
            }
        }

        int clear(int sheet) {
            lanes[sheet] = NOTHING;
            return sizes[sheet];
        }

        long valueAt(int sheet, int i) {
            return values[sheet * MOST_ITEMS + i];
        }

        void put(int sheet, int i, long v) {
            values[sheet * MOST_ITEMS + i] = lowestBits(lanes[sheet], v);
        }

        void move(int from, int i, int to, int j, int n) {
            System.arraycopy(values, from * MOST_ITEMS + i, values, to * MOST_ITEMS + j, n);
        }

        private static long lowestBits(int lane, long v) {
            switch (lane) {
                case 0:
                    return (byte) v;
                case 1:
                    return (short) v;
                case 2:
                    return (int) v;
                default:
                    return v;
            }
        }
    }

    /** The greatest number of people who could claim at once, found by making room for one after the other. */
    private static final class Matching {
        private final int[] fits = new int[Street.MOST_PEOPLE];
        /** By puddle: who is to have it, or NONE. */
        private final int[] holder = new int[Street.MOST_PUDDLES];
        private int tried = 0;

        int greatest(Street street) {
            for (int p = 0; p < Street.MOST_PUDDLES; p++) {
                holder[p] = NONE;
            }
            int matched = 0;
            for (int q = 0; q < street.people; q++) {
                fits[q] = street.fitSet(q);
                tried = 0;
                if (!street.hasClaimed(q) && findsOne(q, 0)) {
                    matched++;
                }
            }
            return matched;
        }

        /** Each level tries a puddle more, so there are no more levels than puddles. */
        private boolean findsOne(int q, int level) {
            if (level > Street.MOST_PUDDLES) {
                return false;
            }
            for (int p = 0; p < Street.MOST_PUDDLES; p++) {
                int bit = 1 << p;
                if ((fits[q] & ~tried & bit) == 0) {
                    continue;
                }
                tried |= bit;
                if (holder[p] < 0 || findsOne(holder[p], level + 1)) {
                    holder[p] = q;
                    return true;
                }
            }
            return false;
        }
    }

    /**
     * The order in which those without a puddle had better come. How deep puddles are does not
     * hang on who claims them, so the depths are worked out once; and who finds nothing in the
     * hour when he comes finds nothing later, so each level of the search asks one person once.
     */
    private static final class Orders {
        private final int[] depths = new int[Street.MOST_PEOPLE * Street.MOST_PUDDLES];
        private final int[] chosen = new int[Street.MOST_PEOPLE];
        private final int[] best = new int[Street.MOST_PEOPLE];
        private int size = 0;
        private int hoursLeft = 0;
        /** How many of all have claimed by the best order. */
        int most = 0;

        /** The street is used up by it. */
        void search(Street street, int n) {
            int claimants = street.claimants();
            int waiting = (1 << street.people) - 1 & ~claimants;
            size = Integer.bitCount(waiting);
            hoursLeft = n;
            most = -1;
            for (int k = 0; k < size; k++) {
                System.arraycopy(street.deep, 0, depths, k * Street.MOST_PUDDLES, Street.MOST_PUDDLES);
                street.lessen();
            }
            choose(street, 0, waiting, street.claimedSet(), Integer.bitCount(claimants));
        }

        int nth(int k) {
            return k >= 0 && k < size ? best[k] : NONE;
        }

        private void choose(Street street, int level, int waiting, int taken, int having) {
            // An order that is only as good as an earlier one is not taken.
            if (having + size - level <= most) {
                return;
            }
            if (level >= size) {
                most = having;
                System.arraycopy(chosen, 0, best, 0, size);
                return;
            }
            for (int q = 0; q < street.people; q++) {
                if ((waiting >> q & 1) == 0) {
                    continue;
                }
                chosen[level] = q;
                int found = level < hoursLeft
                        ? street.deepestFit(q, taken, depths, level * Street.MOST_PUDDLES) : NONE;
                int left = waiting & ~(1 << q);
                if (found < 0) {
                    choose(street, level + 1, left, taken, having);
                } else {
                    choose(street, level + 1, left, taken | 1 << found, having + 1);
                }
            }
        }
    }
}
