import java.util.ArrayList;
import java.util.Arrays;
import java.util.HashSet;
import java.util.List;
import java.util.Set;

/**
 * The document told once more, as plainly as can be and in another way than the class: THE TEXT is
 * cut up each time a NIGHT is asked, ways are walked one by one, and whoever asks "what if" makes a
 * copy of all and tries it.
 */
final class Model {
    static final int NONE = -1, BAD = -2, STATE = -3, FULL = -4, NOTHING = -11, CAST = -12, PLACE = -13, SIZE = -14;
    static final long NO = Long.MIN_VALUE;
    private static final int[] ABOVE = {-1, 0, 0, 0, 1, 2, 3};

    static final class Person {
        int kind, v, at;
        int[] row = new int[4];

        Person copy() {
            Person p = new Person();
            p.kind = kind;
            p.v = v;
            p.at = at;
            p.row = row.clone();
            return p;
        }
    }

    /** All that an IMAGE keeps. */
    static final class World {
        int[] creak = new int[12];
        boolean[] toy = new boolean[12];
        int door = 11, minute, stirs;
        boolean awake;
        List<Person> people = new ArrayList<>();
        List<Integer> way = new ArrayList<>();
        List<int[]> seen = new ArrayList<>();
        List<Integer> book = new ArrayList<>();
        String night;
        int more;

        World() {
            Arrays.fill(creak, 3);
        }

        World copy() {
            World w = new World();
            w.creak = creak.clone();
            w.toy = toy.clone();
            w.door = door;
            w.minute = minute;
            w.stirs = stirs;
            w.awake = awake;
            for (Person p : people) {
                w.people.add(p.copy());
            }
            w.way.addAll(way);
            w.seen.addAll(seen);
            w.book.addAll(book);
            w.night = night;
            w.more = more;
            return w;
        }

        int depth(int at) {
            int sum = more;
            boolean any = false;
            for (String clause : clauses()) {
                if (clause.startsWith("deep")) {
                    any = true;
                    sum += weight(clause) * (Asked.holds(ask(clause), at % 12, 0, 0, 0, 0, 0) ? 1 : 0);
                }
            }
            return any ? sum : 8 + more;
        }

        String[] clauses() {
            return night == null ? new String[0] : night.split(";");
        }

        static int weight(String clause) {
            return Integer.parseInt(clause.split(" ")[1]);
        }

        static String ask(String clause) {
            return clause.split(" ")[2];
        }

        int loud(int b, int kind, int at) {
            int sum = creak[b] + (toy[b] ? 9 : 0);
            for (String clause : clauses()) {
                int sign = clause.startsWith("creak") ? 1 : clause.startsWith("hush") ? -1 : 0;
                if (sign != 0 && Asked.holds(ask(clause), at % 12, b % 6, b / 6, creak[b], kind, toy[b] ? 1 : 0)) {
                    sum += sign * weight(clause);
                }
            }
            return Math.max(sum, 0);
        }

        int noise(Person p, int b, int at) {
            int loud = loud(b, p.kind, at);
            switch (p.kind) {
                case 1: return loud + p.v;
                case 2: return loud / 2;
                case 3: return Math.max(loud - 3, 0);
                case 4: return loud + p.v + at % 3;
                case 5: return loud <= p.v ? 0 : loud / 2;
                case 6: return Math.max(loud - 3, 0) + p.row[at % 4];
                default: return loud;
            }
        }

        static boolean beside(int a, int b) {
            return Math.abs(a % 6 - b % 6) + Math.abs(a / 6 - b / 6) == 1;
        }

        static int takes(Person p) {
            return p.kind == 3 || p.kind == 6 ? 2 : 1;
        }

        int step(Person p, int b) {
            minute += takes(p);
            p.at = b;
            int noise = noise(p, b, minute);
            int depth = depth(minute);
            if (noise > depth) {
                awake = true;
            } else if (2 * noise > depth) {
                stirs++;
                awake = stirs == 3;
            }
            if (awake) {
                stirs = 0;
            }
            return noise;
        }

        void still(int n) {
            for (int i = 0; i < n; i++) {
                minute++;
                stirs = stirs == 0 ? 0 : stirs - 1;
            }
        }

        World asleep() {
            World w = copy();
            w.awake = false;
            return w;
        }

        /** The place, then where, MINUTE, STIRS. */
        int[] goes(int who) {
            World w = asleep();
            Person p = w.people.get(who);
            for (int i = 0; i < way.size(); i++) {
                int b = way.get(i);
                if (b >= 0 && beside(p.at, b)) {
                    w.step(p, b);
                } else {
                    w.still(1);
                }
                if (w.awake) {
                    return new int[] {i, p.at, w.minute, w.stirs};
                }
            }
            return new int[] {-5, p.at, w.minute, w.stirs};
        }

        int out(int who) {
            Set<List<Integer>> now = new HashSet<>();
            List<Set<List<Integer>>> by = new ArrayList<>();
            for (int i = 0; i <= 32; i++) {
                by.add(new HashSet<>());
            }
            Person p = people.get(who);
            by.get(0).add(List.of(p.at, stirs));
            for (int t = 0; t <= 30; t++) {
                now = by.get(t);
                for (List<Integer> one : now) {
                    if (one.get(0) == door) {
                        return t;
                    }
                    by.get(t + 1).add(List.of(one.get(0), Math.max(0, one.get(1) - 1)));
                    int at = minute + t + takes(p);
                    int depth = depth(at);
                    for (int b = 0; b < 12; b++) {
                        if (!beside(b, one.get(0))) {
                            continue;
                        }
                        int noise = noise(p, b, at);
                        int s = one.get(1) + (2 * noise > depth ? 1 : 0);
                        if (noise <= depth && s < 3) {
                            by.get(t + takes(p)).add(List.of(b, s));
                        }
                    }
                }
            }
            return -5;
        }

        int[] quiet(int who) {
            int[] best = {Integer.MAX_VALUE, 99};
            quiet(people.get(who), new ArrayList<>(List.of(people.get(who).at)), 0, best);
            return best;
        }

        private void quiet(Person p, List<Integer> been, int sum, int[] best) {
            int steps = been.size() - 1;
            int at = been.get(steps);
            if (at == door && (sum < best[0] || sum == best[0] && steps < best[1])) {
                best[0] = sum;
                best[1] = steps;
            }
            for (int b = 0; b < 12 && steps < 8; b++) {
                if (beside(at, b) && !been.contains(b)) {
                    been.add(b);
                    quiet(p, been, sum + noise(p, b, minute + takes(p) * (steps + 1)), best);
                    been.remove(been.size() - 1);
                }
            }
        }

        int[] set(int who) {
            int[] best = {-5, -5};
            for (int n = 0; n <= 20; n++) {
                World w = asleep();
                w.still(n);
                int o = w.out(who);
                if (o != -5 && (best[1] == -5 || o < best[1])) {
                    best = new int[] {n, o};
                }
            }
            return best;
        }

        int change(int who, boolean toys) {
            int[] outs = new int[12];
            int least = -5;
            for (int b = 0; b < 12; b++) {
                World w = copy();
                if (toys) {
                    w.toy[b] = false;
                } else {
                    w.creak[b] = 0;
                }
                outs[b] = toys && !toy[b] ? -5 : w.out(who);
                if (outs[b] != -5 && (least == -5 || outs[b] < least)) {
                    least = outs[b];
                }
            }
            int now = out(who);
            if (least == -5 || now != -5 && least >= now) {
                return -5;
            }
            for (int b = 0; b < 12; b++) {
                if (outs[b] == least) {
                    return b;
                }
            }
            return -5;
        }

        int from(int who) {
            int bits = 0;
            for (int b = 0; b < 12; b++) {
                World w = copy();
                w.people.get(who).at = b;
                bits += w.out(who) == -5 ? 0 : 1 << b;
            }
            return bits;
        }

        int deeper(int who) {
            for (int n = 0; n <= 30; n++) {
                World w = copy();
                w.more = n;
                if (w.out(who) != -5) {
                    return n;
                }
            }
            return -5;
        }

        int odds(int who) {
            int asleep = 0;
            for (int n = 0; n < 12; n++) {
                World w = asleep();
                w.still(n);
                asleep += w.goes(who)[0] == -5 ? 1 : 0;
            }
            return asleep;
        }
    }

    World now = new World();
    World image;
    final StringBuilder text = new StringBuilder();
    int nights;
    final List<Integer> trace = new ArrayList<>();
    final int[] sort = {-1, -1, -1, -1, -1, -1};
    final long[][] items = new long[6][];

    private boolean person(int i) {
        return i >= 0 && i < now.people.size();
    }

    private static boolean board(int b) {
        return b >= 0 && b < 12;
    }

    int creak(int b, int n) {
        if (!board(b)) return NONE;
        if (n < 0 || n > 9) return BAD;
        int was = now.creak[b];
        now.creak[b] = n;
        return was;
    }

    int toy(int b, boolean is) {
        if (!board(b)) return NONE;
        int was = now.toy[b] ? 1 : 0;
        now.toy[b] = is;
        return was;
    }

    int door(int b) {
        if (!board(b)) return NONE;
        int was = now.door;
        now.door = b;
        return was;
    }

    int walker(int kind, int v, int b) {
        if (kind < 0 || kind > 6 || !board(b)) return NONE;
        if (v < 0 || v > 9) return BAD;
        if (now.people.size() == 4) return FULL;
        Person p = new Person();
        p.kind = kind;
        p.v = v;
        p.at = b;
        now.people.add(p);
        return now.people.size() - 1;
    }

    int of(int w, int what) {
        if (!person(w)) return NONE;
        Person p = now.people.get(w);
        if (what == 0) return p.kind;
        if (what == 1) return p.v;
        if (what == 2) return p.at;
        if (what < 10 || what > 21) return NONE;
        return now.noise(p, what - 10, now.minute);
    }

    int put(int w, int b) {
        if (!person(w) || !board(b)) return NONE;
        int was = now.people.get(w).at;
        now.people.get(w).at = b;
        return was;
    }

    int row(int w, int part, int n) {
        if (!person(w) || part < 0 || part > 3) return NONE;
        if (n < 0 || n > 9) return BAD;
        Person p = now.people.get(w);
        if (p.kind != 6) return STATE;
        int was = p.row[part];
        p.row[part] = n;
        return was;
    }

    int feed(int sign) {
        if (sign < 0 || sign > 127) return BAD;
        if (text.length() == 100) return FULL;
        text.append((char) sign);
        return text.length();
    }

    int night() {
        if (nights == 6) return FULL;
        String it = text.toString();
        text.setLength(0);
        int fault = Asked.fault(it);
        if (fault >= 0) return -10 - fault;
        now.night = it;
        return nights++;
    }

    int told(int what) {
        switch (what) {
            case 0: return now.minute;
            case 1: return now.stirs;
            case 2: return now.awake ? 1 : 0;
            case 3: return now.depth(now.minute);
            case 4: return now.door;
            case 5:
                int bits = 0;
                for (int b = 0; b < 12; b++) {
                    bits += now.toy[b] ? 1 << b : 0;
                }
                return bits;
            default: return NONE;
        }
    }

    int step(int w, int b) {
        if (!person(w) || !board(b)) return NONE;
        if (!World.beside(now.people.get(w).at, b)) return BAD;
        if (now.awake || now.minute > 9990) return STATE;
        return now.step(now.people.get(w), b);
    }

    int still(int n) {
        if (n < 0 || n > 30) return BAD;
        if (now.minute > 9960) return STATE;
        now.still(n);
        return now.minute;
    }

    int lull() {
        int was = now.awake ? 1 : 0;
        now.awake = false;
        now.stirs = 0;
        return was;
    }

    int way(int b) {
        if (b == -1) {
            now.way.clear();
            return 0;
        }
        if (b != -2 && !board(b)) return NONE;
        if (now.way.size() == 12) return FULL;
        now.way.add(b);
        return now.way.size();
    }

    int goes(int w, int what) {
        return !person(w) || what < 0 || what > 3 ? NONE : now.goes(w)[what];
    }

    int out(int w) {
        return person(w) ? now.out(w) : NONE;
    }

    int quiet(int w, int what) {
        return !person(w) || what < 0 || what > 1 ? NONE : now.quiet(w)[what];
    }

    int set(int w, int what) {
        return !person(w) || what < 0 || what > 1 ? NONE : now.set(w)[what];
    }

    int mend(int w) {
        return person(w) ? now.change(w, false) : NONE;
    }

    int away(int w) {
        return person(w) ? now.change(w, true) : NONE;
    }

    int from(int w) {
        return person(w) ? now.from(w) : NONE;
    }

    int deeper(int w) {
        return person(w) ? now.deeper(w) : NONE;
    }

    int see(int b, int n, boolean woke) {
        if (b == -1) {
            now.seen.clear();
            return 0;
        }
        if (!board(b)) return NONE;
        if (n < 0 || n > 30) return BAD;
        if (now.seen.size() == 6) return FULL;
        now.seen.add(new int[] {b, n, woke ? 1 : 0});
        return now.seen.size();
    }

    int who() {
        int bits = 0;
        for (int i = 0; i < now.people.size(); i++) {
            boolean all = true;
            for (int[] s : now.seen) {
                int at = now.minute + s[1];
                all &= now.noise(now.people.get(i), s[0], at) > now.depth(at) == (s[2] == 1);
            }
            bits += all ? 1 << i : 0;
        }
        return bits;
    }

    private static long fraction(int above, int below, int part) {
        for (int d = below; d > 1; d--) {
            if (above % d == 0 && below % d == 0) {
                return fraction(above / d, below / d, part);
            }
        }
        return part == 0 ? above : below;
    }

    long odds(int w, int part) {
        return !person(w) || part < 0 || part > 1 ? NO : fraction(now.odds(w), 12, part);
    }

    long mean(int b, int part) {
        if (!board(b) || part < 0 || part > 1 || now.people.isEmpty()) return NO;
        int sum = 0;
        for (Person p : now.people) {
            sum += now.noise(p, b, now.minute);
        }
        return fraction(sum, now.people.size(), part);
    }

    int book(int n) {
        if (n == -1) {
            now.book.clear();
            return 0;
        }
        if (n < 0 || n > 999) return BAD;
        if (now.book.size() == 12) return FULL;
        now.book.add(n);
        return now.book.size();
    }

    int looked() {
        for (int i = 0; i < now.book.size(); i++) {
            if (now.book.get(i) != now.depth(now.minute + 1 + i)) {
                return i;
            }
        }
        return -5;
    }

    int judge(int t, int i) {
        if (t < 0 || t > 5) return NONE;
        if (sort[t] > 0) return CAST;
        if (sort[t] < 0 || i < 0) return 100;
        int looked = 0;
        for (long k = i; k < items[t].length && looked < 12; k++, looked++) {
            if (items[t][(int) k] != now.creak[looked]) {
                return looked;
            }
        }
        return looked == 12 ? -5 : 100 + looked;
    }

    int image() {
        image = now.copy();
        return image.people.size();
    }

    int undo() {
        if (image == null) return STATE;
        now = image.copy();
        return now.people.size();
    }

    int act(int w, int act, int x) {
        trace.clear();
        if (!person(w) || act < 0 || act > 2) return 0;
        return call(w, now.people.get(w).kind, act, x);
    }

    /** Runs the body of an ACT that the KIND has, or the next KIND above it that has one. */
    private int call(int w, int kind, int act, int x) {
        int v = now.people.get(w).v;
        int own = now.people.get(w).kind;
        int body = new int[][] {{10, 11, 12}, {0, 20, 0}, {30, 0, 0}, {0, 0, 40}, {50, 51, 0}, {0, 0, 60}, {71, 70, 0}}[kind][act];
        if (body == 0) return call(w, ABOVE[kind], act, x);
        trace.add(body);
        int up = ABOVE[kind];
        switch (body) {
            case 10: return x + w;
            case 11: return call(w, own, 0, x) - v;
            case 12: return call(w, own, 1, x) * 2;
            case 20: return call(w, up, 1, x) ^ 6;
            case 30: return call(w, up, 0, x * 3);
            case 40: return call(w, up, 2, x) + call(w, own, 1, 1);
            case 50: return -call(w, up, 0, x);
            case 51: return call(w, up, 1, x + 1);
            case 60: return call(w, up, 2, x - w);
            case 70: return call(w, up, 1, x) + call(w, up, 0, 2);
            default: return call(w, up, 0, x) ^ v;
        }
    }

    int trace(int i) {
        return i < 0 || i >= Math.min(trace.size(), 20) ? NONE : trace.get(i);
    }

    int taken(int w, int k) {
        if (k < 0 || k > 6) return BAD;
        if (!person(w)) return NOTHING;
        for (int kind = now.people.get(w).kind; kind >= 0; kind = ABOVE[kind]) {
            if (kind == k) return now.people.get(w).kind;
        }
        return CAST;
    }

    int count(int what) {
        int[] all = {now.people.size(), nights, now.way.size(), now.seen.size(), now.book.size(), text.length(), trace.size()};
        return what < 0 || what > 6 ? BAD : all[what];
    }

    int tape(int t, int s, int n) {
        if (t < 0 || t > 5) return NONE;
        if (s < -1 || s > 4 || s >= 0 && n > 60) return BAD;
        if (s >= 0 && n < 0) return SIZE;
        sort[t] = s;
        items[t] = s < 0 ? null : new long[n];
        return 1;
    }

    int item(int t, int i, long v) {
        if (t < 0 || t > 5) return NONE;
        if (items[t] == null) return NOTHING;
        if (i < 0 || i >= items[t].length) return PLACE;
        int bits = new int[] {8, 16, 32, 64, 64}[sort[t]];
        items[t][i] = sort[t] == 4 ? (v == 0 ? 0 : 1) : v << 64 - bits >> 64 - bits;
        return 1;
    }

    long read(int t, int i) {
        if (t < 0 || t > 5 || items[t] == null || i < 0 || i >= items[t].length) return NO;
        return items[t][i];
    }

    int shift(int t, int i, int o, int j, int n) {
        if (t < 0 || t > 5 || o < 0 || o > 5) return NONE;
        if (items[t] == null || items[o] == null) return NOTHING;
        if (sort[t] != sort[o]) return CAST;
        if (n < 0 || i < 0 || j < 0 || (long) i + n > items[t].length || (long) j + n > items[o].length) return PLACE;
        System.arraycopy(items[t], i, items[o], j, n);
        return n;
    }
}
