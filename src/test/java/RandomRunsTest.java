import java.util.Random;

/** Many runs of calls, drawn by a fixed seed, each answered by the class as by the Model. */
public final class RandomRunsTest {
    private static final int RUNS = 400;
    private static final int CALLS = 512;

    private final Check check;
    private final Random random;
    private final OnTiptoe x = new OnTiptoe();
    private final Model m = new Model();
    private final StringBuilder log = new StringBuilder();
    private int calls;

    private RandomRunsTest(Check check, long seed) {
        this.check = check;
        this.random = new Random(seed);
    }

    public static void main(String[] args) {
        Check check = new Check();
        int runs = args.length > 0 ? Integer.parseInt(args[0]) : RUNS;
        long first = args.length > 1 ? Long.parseLong(args[1]) : 1;
        for (long seed = first; seed < first + runs; seed++) {
            RandomRunsTest run = new RandomRunsTest(check, seed);
            run.go();
            if (!check.allRight()) {
                System.out.println("by seed " + seed + ":\n" + run.log);
                break;
            }
        }
        check.end("RandomRunsTest");
    }

    private void go() {
        setUp();
        while (calls < CALLS && check.allRight()) {
            if (pick(12) == 0) {
                feedNight();
            } else if (pick(60) == 0) {
                setUp();
            } else {
                call();
            }
        }
    }

    private int pick(int n) {
        return random.nextInt(n);
    }

    private void due(String what, long got, long want) {
        calls++;
        log.append(what).append(" -> ").append(want).append('\n');
        check.due(what, got, want);
    }

    private void setUp() {
        int most = 3 + pick(7);
        for (int b = 0; b < 12; b++) {
            int n = pick(most);
            due("creak(" + b + ", " + n + ")", x.creak(b, n), m.creak(b, n));
            if (pick(8) == 0) {
                due("toy(" + b + ", true)", x.toy(b, true), m.toy(b, true));
            }
        }
        int door = pick(12);
        due("door(" + door + ")", x.door(door), m.door(door));
        for (int i = pick(4) + pick(2); i > 0; i--) {
            int kind = pick(7);
            int v = pick(10);
            int at = pick(12);
            due("walker(" + kind + ", " + v + ", " + at + ")", x.walker(kind, v, at), m.walker(kind, v, at));
        }
        walk();
    }

    /** A WAY that mostly goes from BOARD to BOARD. */
    private void walk() {
        int at = pick(12);
        if (m.count(2) > 6) {
            due("way(-1)", x.way(-1), m.way(-1));
        }
        for (int i = pick(13); i > 0; i--) {
            int next = pick(4) == 0 ? pick(14) - 2 : at % 6 + (pick(2) == 0 ? 1 : -1) + at / 6 * 6;
            if (pick(3) == 0) {
                next = at < 6 ? at + 6 : at - 6;
            }
            next = next == -1 ? -2 : next;
            at = next < 0 || next > 11 ? at : next;
            due("way(" + next + ")", x.way(next), m.way(next));
        }
    }

    private void feedNight() {
        String text = Texts.night(random);
        for (int i = 0; i < text.length(); i++) {
            char c = text.charAt(i);
            due("feed(" + (int) c + ")", x.feed(c), m.feed(c));
        }
        due("night() of " + text, x.night(), m.night());
    }

    /** Mostly 0 .. n - 1, sometimes just beside it or far off. */
    private int near(int n) {
        switch (pick(24)) {
            case 0: return -1;
            case 1: return n;
            case 2: return new int[] {-2, n + 1, Integer.MAX_VALUE, Integer.MIN_VALUE}[pick(4)];
            default: return pick(n);
        }
    }

    private int anyX() {
        return pick(3) == 0 ? random.nextInt() : pick(20) - 10;
    }

    private void call() {
        int a = near(4);
        int b = near(12);
        int n = near(10);
        int what = near(2);
        boolean is = pick(3) == 0;
        switch (pick(44)) {
            case 0: due("creak(" + b + ", " + n + ")", x.creak(b, n), m.creak(b, n)); break;
            case 1: due("toy(" + b + ", " + is + ")", x.toy(b, is), m.toy(b, is)); break;
            case 2: due("door(" + b + ")", x.door(b), m.door(b)); break;
            case 3: int kind = near(7); due("walker(" + kind + ", " + n + ", " + b + ")", x.walker(kind, n, b), m.walker(kind, n, b)); break;
            case 4: int of = pick(2) == 0 ? near(3) : near(12) + 10; due("of(" + a + ", " + of + ")", x.of(a, of), m.of(a, of)); break;
            case 5: due("put(" + a + ", " + b + ")", x.put(a, b), m.put(a, b)); break;
            case 6: int part = near(4); due("row(" + a + ", " + part + ", " + n + ")", x.row(a, part, n), m.row(a, part, n)); break;
            case 7: if (pick(5) > 0) break; int sign = near(128); due("feed(" + sign + ")", x.feed(sign), m.feed(sign)); break;
            case 8: case 9: case 10: case 11: step(a, b); break;
            case 12: int still = near(31); due("still(" + still + ")", x.still(still), m.still(still)); break;
            case 13: due("lull()", x.lull(), m.lull()); break;
            case 14: if (pick(3) == 0) due("way(-1)", x.way(-1), m.way(-1)); else walk(); break;
            case 15: case 16: int g = near(4); due("goes(" + a + ", " + g + ")", x.goes(a, g), m.goes(a, g)); break;
            case 17: due("out(" + a + ")", x.out(a), m.out(a)); break;
            case 18: due("quiet(" + a + ", " + what + ")", x.quiet(a, what), m.quiet(a, what)); break;
            case 19: due("set(" + a + ", " + what + ")", x.set(a, what), m.set(a, what)); break;
            case 20: due("mend(" + a + ")", x.mend(a), m.mend(a)); break;
            case 21: due("away(" + a + ")", x.away(a), m.away(a)); break;
            case 22: due("from(" + a + ")", x.from(a), m.from(a)); break;
            case 23: due("deeper(" + a + ")", x.deeper(a), m.deeper(a)); break;
            case 24: int s = near(31); due("see(" + b + ", " + s + ", " + is + ")", x.see(b, s, is), m.see(b, s, is)); break;
            case 25: due("who()", x.who(), m.who()); break;
            case 26: due("odds(" + a + ", " + what + ")", x.odds(a, what), m.odds(a, what)); break;
            case 27: due("mean(" + b + ", " + what + ")", x.mean(b, what), m.mean(b, what)); break;
            case 28: book(); break;
            case 29: due("looked()", x.looked(), m.looked()); break;
            case 30: case 31: judge(); break;
            case 32: due("image()", x.image(), m.image()); break;
            case 33: due("undo()", x.undo(), m.undo()); break;
            case 34: case 35: int act = near(3); int v = anyX(); due("act(" + a + ", " + act + ", " + v + ")", x.act(a, act, v), m.act(a, act, v)); break;
            case 36: int t = near(13); due("trace(" + t + ")", x.trace(t), m.trace(t)); break;
            case 37: int k = near(7); due("taken(" + a + ", " + k + ")", x.taken(a, k), m.taken(a, k)); break;
            case 38: int c = near(7); due("count(" + c + ")", x.count(c), m.count(c)); break;
            case 39: int w = near(6); due("told(" + w + ")", x.told(w), m.told(w)); break;
            default: tapes();
        }
    }

    private void step(int a, int b) {
        int to = b;
        int at = m.of(a, 2);
        if (at >= 0 && pick(5) != 0) {
            to = pick(2) == 0 ? at ^ 1 : at < 6 ? at + 6 : at - 6;
        }
        due("step(" + a + ", " + to + ")", x.step(a, to), m.step(a, to));
        if (m.told(2) == 1 && pick(2) == 0) {
            due("lull()", x.lull(), m.lull());
        }
    }

    private void book() {
        if (pick(4) == 0) {
            int n = near(1000);
            due("book(" + n + ")", x.book(n), m.book(n));
            return;
        }
        due("book(-1)", x.book(-1), m.book(-1));
        for (int i = 1; i <= pick(14); i++) {
            int n = Math.min(999, m.now.depth(m.told(0) + i) + (pick(9) == 0 ? 1 : 0));
            due("book(" + n + ")", x.book(n), m.book(n));
        }
        due("looked()", x.looked(), m.looked());
    }

    private void judge() {
        int t = near(6);
        int i = near(5);
        if (pick(2) == 0) {
            int n = pick(20);
            due("tape(" + t + ", 0, " + n + ")", x.tape(t, 0, n), m.tape(t, 0, n));
            for (int b = 0; b < 12 && i >= 0 && i + b < n; b++) {
                int v = m.now.creak[b] + (pick(12) == 0 ? 1 : 0);
                due("item(" + t + ", " + (i + b) + ", " + v + ")", x.item(t, i + b, v), m.item(t, i + b, v));
            }
        }
        due("judge(" + t + ", " + i + ")", x.judge(t, i), m.judge(t, i));
    }

    private void tapes() {
        int t = near(6);
        int i = near(8);
        switch (pick(4)) {
            case 0:
                int sort = pick(3) == 0 ? near(5) : pick(3);
                int n = pick(8) == 0 ? near(61) : pick(14);
                due("tape(" + t + ", " + sort + ", " + n + ")", x.tape(t, sort, n), m.tape(t, sort, n));
                break;
            case 1:
                long v = pick(2) == 0 ? random.nextLong() : pick(400) - 200;
                due("item(" + t + ", " + i + ", " + v + ")", x.item(t, i, v), m.item(t, i, v));
                break;
            case 2:
                due("read(" + t + ", " + i + ")", x.read(t, i), m.read(t, i));
                break;
            default:
                int o = pick(3) == 0 ? near(6) : t;
                int j = near(8);
                int k = near(8);
                due("shift(" + t + ", " + i + ", " + o + ", " + j + ", " + k + ")", x.shift(t, i, o, j, k), m.shift(t, i, o, j, k));
        }
    }
}
