import java.util.ArrayDeque;
import java.util.ArrayList;
import java.util.Collections;
import java.util.List;

/**
 * The document once more, as slowly and literally as it can be written, with the machine's own
 * exceptions for sheets: what ModelTest holds the program against.
 */
final class Model {
    static final int BAD = -1, NOT = -2, FULL = -3, NONE = -4, NULL = -11, CAST = -12, INDEX = -13, SIZE = -14;

    static final class Puddle {
        int kind, shows, deep;
        Puddle(int kind, int shows, int deep) { this.kind = kind; this.shows = shows; this.deep = deep; }
    }

    static final class Person {
        int lost, comes, needs;
        Integer claimed;
        Person(int lost, int comes, int needs) { this.lost = lost; this.comes = comes; this.needs = needs; }
    }

    static final class State {
        final List<Puddle> puddles = new ArrayList<>();
        final List<Person> people = new ArrayList<>();
        int hour = 0;
        long draw = 1;

        State twin() {
            State t = new State();
            for (Puddle p : puddles) t.puddles.add(new Puddle(p.kind, p.shows, p.deep));
            for (Person q : people) {
                Person r = new Person(q.lost, q.comes, q.needs);
                r.claimed = q.claimed;
                t.people.add(r);
            }
            t.hour = hour;
            t.draw = draw;
            return t;
        }

        boolean taken(int p) {
            for (Person q : people) if (q.claimed != null && q.claimed == p) return true;
            return false;
        }

        boolean fit(int p, int q) {
            Puddle u = puddles.get(p);
            Person v = people.get(q);
            return u.shows == v.lost && u.deep >= v.needs && !taken(p);
        }

        boolean dry(int p) {
            return p >= 0 && p < puddles.size() && puddles.get(p).deep == 0;
        }

        int less(int p) {
            int plain = 2;
            int shady = 1;
            int kerb = hour % 2 == 0 ? 4 : 2;
            switch (puddles.get(p).kind) {
                case 0: return plain;
                case 1: return shady;
                case 2: return kerb;
                case 3: return puddles.get(p).deep >= 30 ? 0 : shady;
                default: return kerb + (dry(p - 1) ? 2 : 0) + (dry(p + 1) ? 2 : 0);
            }
        }

        void anHour() {
            for (int q = 0; q < people.size(); q++) {
                Person v = people.get(q);
                if (v.comes > hour || v.claimed != null) continue;
                for (int p = 0; p < puddles.size(); p++) {
                    if (!fit(p, q)) continue;
                    boolean deepest = true;
                    for (int o = 0; o < puddles.size(); o++) {
                        if (!fit(o, q)) continue;
                        if (puddles.get(o).deep > puddles.get(p).deep) deepest = false;
                        if (puddles.get(o).deep == puddles.get(p).deep && o < p) deepest = false;
                    }
                    if (deepest) { v.claimed = p; break; }
                }
            }
            State before = twin();
            for (int p = 0; p < puddles.size(); p++) {
                puddles.get(p).deep = Math.max(0, puddles.get(p).deep - before.less(p));
            }
            hour++;
        }

        State behind(int n) {
            State t = twin();
            for (int k = 0; k < n; k++) t.anHour();
            return t;
        }

        int who() {
            int set = 0;
            for (int q = 0; q < people.size(); q++) if (people.get(q).claimed != null) set |= 1 << q;
            return set;
        }

        int howMany() {
            return Integer.bitCount(who());
        }

        int sum() {
            int sum = 0;
            for (Puddle p : puddles) sum += p.deep;
            return sum;
        }
    }

    State now = new State();
    ArrayDeque<State> past = new ArrayDeque<>();
    State keptNow;
    ArrayDeque<State> keptPast;
    String tape = "";
    final Object[] sheets = new Object[4];

    private boolean noPuddle(int p) { return p < 0 || p >= now.puddles.size(); }
    private boolean noPerson(int q) { return q < 0 || q >= now.people.size(); }
    private static boolean out(int v, int lo, int hi) { return v < lo || v > hi; }

    int puddle(int kind, int sight, int deep) {
        if (out(kind, 0, 4) || out(sight, 0, 7) || out(deep, 0, 60)) return BAD;
        if (now.puddles.size() == 7) return FULL;
        now.puddles.add(new Puddle(kind, sight, deep));
        past.clear();
        return now.puddles.size() - 1;
    }

    int person(int lost, int comes, int needs) {
        if (out(lost, 0, 7) || out(comes, 0, 20) || out(needs, 1, 30)) return BAD;
        if (now.people.size() == 6) return FULL;
        now.people.add(new Person(lost, comes, needs));
        past.clear();
        return now.people.size() - 1;
    }

    int show(int p, int sight) {
        if (noPuddle(p) || out(sight, 0, 7)) return BAD;
        int was = now.puddles.get(p).shows;
        now.puddles.get(p).shows = sight;
        return was;
    }

    int of(int p, int what) {
        if (noPuddle(p) || out(what, 0, 4)) return BAD;
        Puddle u = now.puddles.get(p);
        if (what == 3) {
            for (int q = 0; q < now.people.size(); q++) {
                Integer c = now.people.get(q).claimed;
                if (c != null && c == p) return q;
            }
            return NONE;
        }
        return what == 0 ? u.kind : what == 1 ? u.shows : what == 2 ? u.deep : now.less(p);
    }

    int at(int q, int what) {
        if (noPerson(q) || out(what, 0, 4)) return BAD;
        Person v = now.people.get(q);
        if (what == 3) return v.claimed == null ? NONE : v.claimed;
        if (what == 4) {
            int set = 0;
            for (int p = 0; p < now.puddles.size(); p++) if (now.fit(p, q)) set |= 1 << p;
            return set;
        }
        return what == 0 ? v.lost : what == 1 ? v.comes : v.needs;
    }

    int type(int letter) {
        if (out(letter, 32, 126)) return BAD;
        if (tape.length() == 90) return FULL;
        tape += (char) letter;
        return tape.length();
    }

    /** As a machine of states, letter by letter, where the program reads from the top down. */
    int read() {
        String text = tape;
        tape = "";
        State s = new State();
        int state = 0; // 0 kind, 1 sight, 2 deep, 3 behind a puddle, 4 lost, 5 behind lost, 6 comes, 7 behind comes, 8 needs, 9 behind needs
        int kind = 0, sight = 0, number = -1, first = 0, digits = 0;
        for (int i = 0; i <= text.length(); i++) {
            char c = i < text.length() ? text.charAt(i) : '\n';
            boolean digit = c >= '0' && c <= '9';
            if (digits > 0) {
                if (digit && digits == 1) {
                    number = number * 10 + c - '0';
                    digits = 2;
                    continue;
                }
                int lo = state == 8 ? 1 : 0;
                int hi = state == 2 ? 60 : state == 6 ? 20 : 30;
                if (number < lo || number > hi) return -20 - first;
                if (state == 2) s.puddles.add(new Puddle(kind, sight, number));
                if (state == 6) s.people.get(s.people.size() - 1).comes = number;
                if (state == 8) s.people.get(s.people.size() - 1).needs = number;
                digits = 0;
                state++;
            }
            if (c == ' ') continue;
            if (state == 0 && "pskwg".indexOf(c) >= 0) { kind = "pskwg".indexOf(c); state = 1; }
            else if (state == 1 && c >= '0' && c <= '7') { sight = c - '0'; state = 2; }
            else if ((state == 2 || state == 6 || state == 8) && digit) { number = c - '0'; first = i; digits = 1; }
            else if (state == 3 && c == ',' && s.puddles.size() < 7) state = 0;
            else if (state == 3 && c == ';') state = 4;
            else if (state == 4 && c >= '0' && c <= '7') { s.people.add(new Person(c - '0', 0, 1)); state = 5; }
            else if (state == 5 && c == '@') state = 6;
            else if ((state == 5 || state == 7) && c == '/') state = 8;
            else if ((state == 5 || state == 7 || state == 9) && c == ',' && s.people.size() < 6) state = 4;
            else if (c == '\n' && (state == 3 || state == 5 || state == 7 || state == 9)) break;
            else return -20 - i;
        }
        s.draw = now.draw;
        now = s;
        past.clear();
        return now.puddles.size();
    }

    int count(int what) {
        int set = 0;
        switch (what) {
            case 0: return now.puddles.size();
            case 1: return now.people.size();
            case 2: return now.hour;
            case 3: return now.sum();
            case 4:
                for (int p = 0; p < now.puddles.size(); p++) if (now.dry(p)) set |= 1 << p;
                return set;
            case 5: return now.who();
            case 6:
                for (int p = 0; p < now.puddles.size(); p++) if (now.taken(p)) set |= 1 << p;
                return set;
            case 7: return past.size();
            default: return BAD;
        }
    }

    private void keep() {
        past.addLast(now.twin());
        if (past.size() > 8) past.removeFirst();
    }

    int hours(int n) {
        if (out(n, 1, 40)) return BAD;
        if (now.hour + n > 9999) return FULL;
        for (int k = 0; k < n; k++) { keep(); now.anHour(); }
        return now.who();
    }

    int rain(int n) {
        if (out(n, 1, 60)) return BAD;
        keep();
        for (Puddle p : now.puddles) p.deep = Math.min(60, p.deep + n);
        return now.sum();
    }

    int drive(int p) {
        if (noPuddle(p)) return BAD;
        if (now.dry(p)) return NOT;
        keep();
        return now.puddles.get(p).deep /= 2;
    }

    int send(int q) {
        if (noPerson(q)) return BAD;
        Integer had = now.people.get(q).claimed;
        if (had == null) return NOT;
        keep();
        now.people.get(q).claimed = null;
        return had;
    }

    int later(int q, int comes) {
        if (noPerson(q) || out(comes, 0, 20)) return BAD;
        int was = now.people.get(q).comes;
        if (was == comes) return NOT;
        keep();
        now.people.get(q).comes = comes;
        return was;
    }

    int drift(int n) {
        if (out(n, 1, 40)) return BAD;
        if (now.hour + n > 9999) return FULL;
        for (int k = 0; k < n; k++) {
            keep();
            now.draw = (now.draw * 1103515245L + 12345L) % (1L << 31);
            int many = now.puddles.size();
            if (now.draw / 65536 % 3 == 0 && many > 0) now.puddles.get((int) (now.draw / 128 % many)).deep /= 2;
            now.anHour();
        }
        return now.who();
    }

    int undo() {
        if (past.isEmpty()) return NONE;
        State was = past.removeLast();
        for (int p = 0; p < was.puddles.size(); p++) was.puddles.get(p).shows = now.puddles.get(p).shows;
        now = was;
        return past.size();
    }

    int seed(int v) {
        if (v < 0) return BAD;
        int was = (int) now.draw;
        now.draw = v;
        return was;
    }

    int ahead(int p, int n) {
        return noPuddle(p) || out(n, 0, 40) ? BAD : now.behind(n).puddles.get(p).deep;
    }

    int claims(int q, int n) {
        if (noPerson(q) || out(n, 0, 40)) return BAD;
        Integer c = now.behind(n).people.get(q).claimed;
        return c == null ? NONE : c;
    }

    int then(int n) {
        return out(n, 0, 40) ? BAD : now.behind(n).who();
    }

    int served(int q) {
        if (noPerson(q)) return BAD;
        for (int n = 0; n <= 40; n++) if (now.behind(n).people.get(q).claimed != null) return n;
        return NONE;
    }

    int dries(int p) {
        if (noPuddle(p)) return BAD;
        for (int n = 0; n <= 40; n++) if (now.behind(n).dry(p)) return n;
        return NONE;
    }

    int match() {
        return mostFrom(0, 0);
    }

    private int mostFrom(int q, int used) {
        if (q == now.people.size()) return 0;
        int best = mostFrom(q + 1, used);
        if (now.people.get(q).claimed != null) return best;
        for (int p = 0; p < now.puddles.size(); p++) {
            if (now.fit(p, q) && (used >> p & 1) == 0) best = Math.max(best, 1 + mostFrom(q + 1, used | 1 << p));
        }
        return best;
    }

    int latest(int q) {
        if (noPerson(q)) return BAD;
        int best = NONE;
        for (int h = 0; h <= 20; h++) {
            State t = now.twin();
            t.people.get(q).comes = h;
            if (t.behind(40).people.get(q).claimed != null) best = h;
        }
        return best;
    }

    int order(int n, int k) {
        if (out(n, 1, 30) || k < -1) return BAD;
        List<Integer> waiting = new ArrayList<>();
        for (int q = 0; q < now.people.size(); q++) if (now.people.get(q).claimed == null) waiting.add(q);
        int most = -1;
        List<Integer> best = null;
        for (List<Integer> order : orders(waiting)) {
            State t = now.twin();
            for (int j = 0; j < order.size(); j++) t.people.get(order.get(j)).comes = now.hour + j;
            int many = t.behind(n).howMany();
            if (many > most) { most = many; best = order; }
        }
        return k == -1 ? most : k < best.size() ? best.get(k) : NONE;
    }

    private static List<List<Integer>> orders(List<Integer> of) {
        if (of.isEmpty()) return Collections.singletonList(new ArrayList<>());
        List<List<Integer>> all = new ArrayList<>();
        for (int j = 0; j < of.size(); j++) {
            List<Integer> rest = new ArrayList<>(of);
            int head = rest.remove(j);
            for (List<Integer> tail : orders(rest)) {
                List<Integer> one = new ArrayList<>();
                one.add(head);
                one.addAll(tail);
                all.add(one);
            }
        }
        return all;
    }

    int wet(int n) {
        if (out(n, 1, 30)) return BAD;
        for (int r = 0; r <= 60; r++) {
            State t = now.twin();
            for (Puddle p : t.puddles) p.deep = Math.min(60, p.deep + r);
            if (t.behind(n).howMany() == now.people.size()) return r;
        }
        return NONE;
    }

    int matters(int n, int what) {
        if (out(n, 1, 30) || out(what, 0, 1)) return BAD;
        int best = NONE, fewest = NONE;
        for (int p = now.puddles.size() - 1; p >= 0; p--) {
            State t = now.twin();
            t.puddles.get(p).deep = 0;
            int many = t.behind(n).howMany();
            if (best == NONE || many <= fewest) { best = p; fewest = many; }
        }
        return what == 0 ? best : fewest;
    }

    int sight(int p, int n, int what) {
        if (noPuddle(p) || out(n, 1, 30) || out(what, 0, 1)) return BAD;
        int best = NONE, most = NONE;
        for (int s = 7; s >= 0; s--) {
            State t = now.twin();
            t.puddles.get(p).shows = s;
            int many = t.behind(n).howMany();
            if (many >= most) { best = s; most = many; }
        }
        return what == 0 ? best : most;
    }

    int carts(int q, int c, int what) {
        if (noPerson(q) || out(c, 0, 10) || out(what, 0, 1)) return BAD;
        long above = cartsFrom(now.twin(), 0, q, c);
        long below = 1;
        for (int p = 0; p < now.puddles.size(); p++) below *= 10;
        long g = java.math.BigInteger.valueOf(above).gcd(java.math.BigInteger.valueOf(below)).longValue();
        return (int) ((what == 0 ? above : below) / g);
    }

    private long cartsFrom(State s, int p, int q, int c) {
        if (p == s.puddles.size()) return s.behind(1).people.get(q).claimed != null ? 1 : 0;
        if (s.dry(p)) return 10 * cartsFrom(s, p + 1, q, c);
        State driven = s.twin();
        driven.puddles.get(p).deep /= 2;
        return c * cartsFrom(driven, p + 1, q, c) + (10 - c) * cartsFrom(s, p + 1, q, c);
    }

    int image() {
        keptNow = now.twin();
        keptPast = twins(past);
        return 1;
    }

    int restore() {
        if (keptNow == null) return NONE;
        now = keptNow.twin();
        past = twins(keptPast);
        return 1;
    }

    private static ArrayDeque<State> twins(ArrayDeque<State> of) {
        ArrayDeque<State> t = new ArrayDeque<>();
        for (State s : of) t.addLast(s.twin());
        return t;
    }

    private static boolean noSheet(int s) { return out(s, 0, 3); }

    /** An item of a row that is cast to the lane; what the machine finds is thrown. */
    private long get(int sheet, int lane, int i) {
        Object row = sheets[sheet];
        if (row == null) throw new NullPointerException();
        return lane == 0 ? ((byte[]) row)[i] : lane == 1 ? ((short[]) row)[i] : lane == 2 ? ((int[]) row)[i] : ((long[]) row)[i];
    }

    private void set(int sheet, int lane, int i, long v) {
        Object row = sheets[sheet];
        if (row == null) throw new NullPointerException();
        switch (lane) {
            case 0: ((byte[]) row)[i] = (byte) v; break;
            case 1: ((short[]) row)[i] = (short) v; break;
            case 2: ((int[]) row)[i] = (int) v; break;
            default: ((long[]) row)[i] = v;
        }
    }

    private static int found(RuntimeException e) {
        if (e instanceof NullPointerException) return NULL;
        if (e instanceof ClassCastException || e instanceof ArrayStoreException) return CAST;
        if (e instanceof IndexOutOfBoundsException) return INDEX;
        if (e instanceof NegativeArraySizeException) return SIZE;
        throw e;
    }

    int dipped(int p, int sheet, int lane, int i, int n, int what) {
        if (noPuddle(p) || noSheet(sheet) || out(lane, 0, 3) || out(n, 1, 8) || out(what, 0, 2)) return BAD;
        long[] told = new long[n];
        try {
            for (int k = 0; k < n; k++) told[k] = get(sheet, lane, i + k);
        } catch (RuntimeException e) {
            return found(e);
        }
        int kinds = 0, many = 0, least = NONE;
        for (int kind = 0; kind < 5; kind++) {
            State t = now.twin();
            t.puddles.get(p).kind = kind;
            if (so(t, p, told)) kinds |= 1 << kind;
        }
        for (int deep = 60; deep >= 0; deep--) {
            State t = now.twin();
            t.puddles.get(p).deep = deep;
            if (so(t, p, told)) { many++; least = deep; }
        }
        return what == 0 ? kinds : what == 1 ? many : least;
    }

    private static boolean so(State t, int p, long[] told) {
        boolean all = true;
        for (int k = 0; k < told.length; k++) all &= t.behind(k + 1).puddles.get(p).deep == told[k];
        return all;
    }

    int film(int p, int n, int sheet, int lane, int i) {
        if (noPuddle(p) || out(n, 1, 24) || noSheet(sheet) || out(lane, 0, 3)) return BAD;
        try {
            for (int k = 0; k < n; k++) get(sheet, lane, i + k);
            for (int k = 0; k < n; k++) set(sheet, lane, i + k, now.behind(k + 1).puddles.get(p).deep);
        } catch (RuntimeException e) {
            return found(e);
        }
        return n;
    }

    int sheet(int sheet, int lane, int n) {
        if (noSheet(sheet) || out(lane, 0, 3) || n > 24) return BAD;
        try {
            sheets[sheet] = lane == 0 ? new byte[n] : lane == 1 ? new short[n] : lane == 2 ? new int[n] : new long[n];
        } catch (RuntimeException e) {
            return found(e);
        }
        return n;
    }

    int drop(int sheet) {
        if (noSheet(sheet)) return BAD;
        if (sheets[sheet] == null) return NULL;
        int had = java.lang.reflect.Array.getLength(sheets[sheet]);
        sheets[sheet] = null;
        return had;
    }

    int item(int sheet, int lane, int i, long v) {
        if (noSheet(sheet) || out(lane, 0, 3)) return BAD;
        try {
            set(sheet, lane, i, v);
        } catch (RuntimeException e) {
            return found(e);
        }
        return 1;
    }

    int copy(int from, int i, int to, int j, int n) {
        if (noSheet(from) || noSheet(to)) return BAD;
        try {
            System.arraycopy(sheets[from], i, sheets[to], j, n);
        } catch (RuntimeException e) {
            return found(e);
        }
        return n;
    }
}
