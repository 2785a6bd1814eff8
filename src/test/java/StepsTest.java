/** Promises 12 to 23: steps, ways out. */
public final class StepsTest {
    private static final Check C = new Check();
    private static final int[] NO_WALKERS = {-1, 1, 4, Integer.MAX_VALUE, Integer.MIN_VALUE};

    public static void main(String[] args) {
        step();
        stepWakes();
        stepLate();
        stillAndLull();
        way();
        goes();
        out();
        outByStirs();
        outOnTime();
        quiet();
        set();
        mend();
        away();
        from();
        deeper();
        nobody();
        C.end("StepsTest");
    }

    private static OnTiptoe withWalker(int kind, int v, int board) {
        OnTiptoe x = new OnTiptoe();
        x.walker(kind, v, board);
        return x;
    }

    private static void creakAll(OnTiptoe x, int n) {
        for (int b = 0; b < 12; b++) {
            x.creak(b, n);
        }
    }

    private static void step() {
        OnTiptoe x = withWalker(0, 0, 5);
        C.due("p12 x differs by 1, but not y alike", x.step(0, 6), -2);
        C.due("p12 onto itself", x.step(0, 5), -2);
        C.due("p12 aslant", x.step(0, 10), -2);
        C.due("p12 no board", x.step(0, 12), -1);
        C.due("p12 no board", x.step(0, -1), -1);
        C.due("p12 no walker", x.step(1, 4), -1);
        C.due("p12 no walker", x.step(-1, 4), -1);
        C.due("p12 nothing changed", x.told(0), 0);
        C.due("p12", x.step(0, 4), 3);
        C.due("p12 is there", x.of(0, 2), 4);
        C.due("p12 minute", x.told(0), 1);
        C.due("p12 no stirs", x.told(1), 0);
        C.due("p12 down", x.step(0, 10), 3);
        C.due("p12 up", x.step(0, 4), 3);
        C.due("p12 right", x.step(0, 5), 3);
        C.due("p12 minute", x.told(0), 4);
        for (int kind = 0; kind < 7; kind++) {
            OnTiptoe y = withWalker(kind, 0, 0);
            y.step(0, 6);
            C.due("p12 minutes of kind " + kind, y.told(0), kind == 3 || kind == 6 ? 2 : 1);
        }
        OnTiptoe z = withWalker(6, 0, 0);
        z.row(0, 2, 7);
        C.due("p12 noise by minute as it is then", z.step(0, 1), 7);
    }

    private static void stepWakes() {
        OnTiptoe x = withWalker(0, 0, 0);
        creakAll(x, 4);
        C.due("p12 twice 4 is not above 8", x.step(0, 1), 4);
        C.due("p12 stirs", x.told(1), 0);
        creakAll(x, 8);
        C.due("p12 8 is not above 8", x.step(0, 0), 8);
        C.due("p12 stirs", x.told(1), 1);
        C.due("p12 asleep", x.told(2), 0);
        creakAll(x, 5);
        x.step(0, 1);
        C.due("p12 stirs", x.told(1), 2);
        C.due("p12 asleep", x.told(2), 0);
        C.due("p12 the third", x.step(0, 0), 5);
        C.due("p12 awake by it", x.told(2), 1);
        C.due("p12 stirs are 0 then", x.told(1), 0);
        C.due("p12 awake", x.step(0, 1), -3);
        C.due("p12 not beside ahead of awake", x.step(0, 3), -2);
        C.due("p12 is where it was", x.of(0, 2), 0);
        C.due("p12 minute", x.told(0), 4);
        OnTiptoe y = withWalker(0, 0, 0);
        y.creak(1, 9);
        C.due("p12 9 is above 8", y.step(0, 1), 9);
        C.due("p12 awake", y.told(2), 1);
        C.due("p12 stirs", y.told(1), 0);
        C.due("p12 it is there all the same", y.of(0, 2), 1);
        OnTiptoe z = withWalker(0, 0, 0);
        Check.night(z, "deep 9 m=0;deep 2 m=1");
        z.step(0, 1);
        C.due("p12 depth by minute as it is then", z.told(2), 1);
    }

    private static void stepLate() {
        OnTiptoe x = withWalker(3, 0, 0);
        for (int i = 0; i < 332; i++) {
            x.still(30);
        }
        C.due("p13", x.still(30), 9990);
        C.due("p13 minute above 9960", x.still(0), -3);
        C.due("p13 bad ahead of state", x.still(31), -2);
        C.due("p12 at 9990", x.step(0, 1), 0);
        C.due("p12 minute", x.told(0), 9992);
        C.due("p12 above 9990", x.step(0, 0), -3);
        x.way(0);
        x.way(-2);
        C.due("p16 asks go beyond", x.goes(0, 2), 9995);
        C.due("p17 asks go beyond", x.out(0), 10);
        OnTiptoe y = withWalker(0, 0, 0);
        for (int i = 0; i < 331; i++) {
            y.still(30);
        }
        y.still(30);
        C.due("p12 at 9960", y.step(0, 1), 3);
        C.due("p13 at 9961", y.still(0), -3);
        for (int i = 0; i < 30; i++) {
            y.step(0, i % 2);
        }
        C.due("p12 at 9990 it was one more", y.told(0), 9991);
        C.due("p12 at 9991", y.step(0, 0), -3);
    }

    private static void stillAndLull() {
        OnTiptoe x = withWalker(0, 0, 0);
        creakAll(x, 5);
        x.step(0, 1);
        x.step(0, 0);
        C.due("p13 none", x.still(0), 2);
        C.due("p13 stirs", x.told(1), 2);
        C.due("p13", x.still(1), 3);
        C.due("p13 stirs 1 less", x.told(1), 1);
        C.due("p13", x.still(30), 33);
        C.due("p13 stirs 0 at least", x.told(1), 0);
        C.due("p13 above", x.still(31), -2);
        C.due("p13 below", x.still(-1), -2);
        C.due("p13 minute", x.told(0), 33);
        C.due("p14 it slept", x.lull(), 0);
        x.step(0, 1);
        C.due("p14 stirs", x.told(1), 1);
        C.due("p14 it slept", x.lull(), 0);
        C.due("p14 stirs", x.told(1), 0);
        x.creak(0, 9);
        x.step(0, 0);
        C.due("p13 awake, too", x.still(2), 37);
        C.due("p13 awake, too", x.told(2), 1);
        C.due("p14 it was awake", x.lull(), 1);
        C.due("p14 sleeps", x.told(2), 0);
        C.due("p14 steps again", x.step(0, 1), 5);
    }

    private static void way() {
        OnTiptoe x = withWalker(0, 0, 0);
        C.due("p15 none", x.way(-1), 0);
        C.due("p15 no board", x.way(12), -1);
        C.due("p15 no board", x.way(-3), -1);
        for (int i = 1; i <= 12; i++) {
            C.due("p15", x.way(i == 3 ? -2 : i - 1), i);
        }
        C.due("p15 full", x.way(0), -4);
        C.due("p15 full", x.way(-2), -4);
        C.due("p15 no board ahead of full", x.way(12), -1);
        C.due("p15 count", x.count(2), 12);
        C.due("p15 none then", x.way(-1), 0);
        C.due("p15 count", x.count(2), 0);
        C.due("p15 again", x.way(4), 1);
    }

    private static void goesAll(OnTiptoe x, String what, int place, int board, int minute, int stirs) {
        C.due("p16 place: " + what, x.goes(0, 0), place);
        C.due("p16 where: " + what, x.goes(0, 1), board);
        C.due("p16 minute: " + what, x.goes(0, 2), minute);
        C.due("p16 stirs: " + what, x.goes(0, 3), stirs);
    }

    private static void goes() {
        OnTiptoe x = withWalker(0, 0, 0);
        goesAll(x, "no way", -5, 0, 0, 0);
        x.way(1);
        x.way(7);
        x.way(7);
        x.way(-2);
        x.way(0);
        x.way(8);
        goesAll(x, "still on itself, by -2, not beside", -5, 8, 6, 0);
        x.creak(1, 5);
        x.creak(7, 5);
        x.creak(8, 5);
        goesAll(x, "stirs go by", -5, 8, 6, 1);
        x.way(-1);
        x.way(1);
        x.way(7);
        x.way(8);
        x.way(9);
        goesAll(x, "the third stir wakes", 2, 8, 3, 0);
        x.creak(7, 9);
        goesAll(x, "9 wakes", 1, 7, 2, 0);
        C.due("p16 changes nothing", x.told(0), 0);
        C.due("p16 changes nothing", x.of(0, 2), 0);
        x.step(0, 1);
        x.step(0, 7);
        C.due("p16 awake", x.told(2), 1);
        goesAll(x, "as if it slept", 1, 7, 4, 0);
        C.due("p16 no what", x.goes(0, 4), -1);
        C.due("p16 no what", x.goes(0, -1), -1);
        OnTiptoe y = withWalker(3, 0, 0);
        y.way(1);
        y.way(2);
        y.way(2);
        goesAll(y, "a slow one", -5, 2, 5, 0);
        OnTiptoe z = withWalker(0, 0, 0);
        creakAll(z, 5);
        z.step(0, 1);
        z.step(0, 0);
        z.way(1);
        goesAll(z, "stirs as they are", 0, 1, 3, 0);
    }

    private static void out() {
        OnTiptoe x = withWalker(0, 0, 0);
        C.due("p17", x.out(0), 6);
        x.put(0, 10);
        C.due("p17", x.out(0), 1);
        x.put(0, 11);
        C.due("p17 at the door", x.out(0), 0);
        x.toy(11, true);
        C.due("p17 at the door on a toy", x.out(0), 0);
        x.put(0, 10);
        C.due("p17 the door wakes", x.out(0), -5);
        x.door(0);
        C.due("p17 another door", x.out(0), 5);
        x.toy(3, true);
        x.toy(8, true);
        C.due("p17 no way round", x.out(0), -5);
        x.toy(8, false);
        x.toy(9, true);
        C.due("p17 no way round", x.out(0), -5);
        x.toy(3, false);
        x.toy(1, true);
        C.due("p17 a way round", x.out(0), -5 + 12);
        C.due("p17 changes nothing", x.told(0), 0);
        OnTiptoe y = withWalker(3, 0, 0);
        C.due("p17 a slow one", y.out(0), 12);
    }

    private static void outByStirs() {
        OnTiptoe x = withWalker(0, 0, 0);
        creakAll(x, 5);
        C.due("p17 six steps, four still minutes", x.out(0), 10);
        x.step(0, 1);
        x.step(0, 0);
        C.due("p17 stirs as they are", x.told(1), 2);
        C.due("p17 stirs as they are", x.out(0), 12);
        x.step(0, 1);
        C.due("p17 awake", x.told(2), 1);
        C.due("p17 as if it slept", x.out(0), 8);
        OnTiptoe y = withWalker(0, 0, 0);
        creakAll(y, 5);
        y.door(2);
        C.due("p17 two steps, two stirs", y.out(0), 2);
    }

    private static void outOnTime() {
        OnTiptoe x = withWalker(0, 0, 0);
        Check.night(x, "deep 8 m=6");
        x.door(3);
        C.due("p17 at 6, 18, 30", x.out(0), 30);
        x.door(4);
        C.due("p17 42 is too late", x.out(0), -5);
        x.still(5);
        C.due("p17 by minute as it is now", x.out(0), -5);
        x.still(1);
        x.door(2);
        C.due("p17 at 18, 30", x.out(0), 24);
        x.still(5);
        x.door(3);
        C.due("p17 31 is too late", x.out(0), -5);
        OnTiptoe y = withWalker(0, 0, 0);
        y.door(1);
        y.creak(1, 9);
        C.due("p17 9 is above 8", y.out(0), -5);
        C.due("p22 9 is above 8", y.from(0), 2);
        y.creak(1, 8);
        C.due("p17 8 is not above 8", y.out(0), 1);
    }

    private static void quietIs(OnTiptoe x, String what, int noise, int steps) {
        C.due("p18 how much: " + what, x.quiet(0, 0), noise);
        C.due("p18 steps: " + what, x.quiet(0, 1), steps);
    }

    private static void quiet() {
        OnTiptoe x = withWalker(0, 0, 0);
        quietIs(x, "straight", 18, 6);
        x.door(2);
        quietIs(x, "straight", 6, 2);
        x.creak(1, 9);
        quietIs(x, "as much by four steps", 12, 2);
        x.toy(1, true);
        quietIs(x, "round", 12, 4);
        x.door(0);
        quietIs(x, "at the door", 0, 0);
        C.due("p18 no what", x.quiet(0, 2), -1);
        C.due("p18 no what", x.quiet(0, -1), -1);
        OnTiptoe y = withWalker(0, 0, 0);
        y.door(1);
        Check.night(y, "creak 90 m<8&x=1&y=0");
        quietIs(y, "nine steps would be too many", 93, 1);
        OnTiptoe z = withWalker(3, 0, 0);
        z.door(1);
        Check.night(z, "creak 90 m<8&x=1&y=0");
        quietIs(z, "a slow one's fifth step is late enough", 0, 5);
        OnTiptoe w = withWalker(0, 0, 0);
        w.door(1);
        Check.night(w, "creak 90 m<7&x=1&y=0");
        quietIs(w, "seven steps", 21, 7);
        OnTiptoe v = withWalker(0, 0, 0);
        creakAll(v, 0);
        v.creak(1, 1);
        v.door(1);
        Check.night(v, "hush 9 m=1&x>0;creak 9 m=1");
        quietIs(v, "no still minutes, no board twice", 1, 1);
    }

    private static void setIs(OnTiptoe x, String what, int n, int minutes) {
        C.due("p19 n: " + what, x.set(0, 0), n);
        C.due("p19 minutes: " + what, x.set(0, 1), minutes);
    }

    private static void set() {
        OnTiptoe x = withWalker(0, 0, 0);
        setIs(x, "at once", 0, 6);
        Check.night(x, "deep 8 m=6");
        x.door(1);
        setIs(x, "the least of several", 5, 1);
        x.still(30);
        setIs(x, "by minute as it is now", 11, 1);
        x.creak(1, 9);
        setIs(x, "by none", -5, -5);
        C.due("p19 no what", x.set(0, 2), -1);
        C.due("p19 no what", x.set(0, -1), -1);
        OnTiptoe y = withWalker(0, 0, 0);
        creakAll(y, 5);
        y.step(0, 1);
        y.step(0, 0);
        setIs(y, "stirs go by", 2, 10);
        OnTiptoe z = withWalker(0, 0, 0);
        z.door(1);
        z.toy(1, true);
        Check.night(z, "deep 12 m=8");
        z.still(20);
        setIs(z, "twelve MINUTES on", 11, 1);
        z.door(0);
        setIs(z, "at the door", 0, 0);
    }

    private static void mend() {
        OnTiptoe x = withWalker(0, 0, 0);
        C.due("p20 not fewer", x.mend(0), -5);
        x.door(2);
        x.creak(1, 9);
        C.due("p20 fewer", x.mend(0), 1);
        x.creak(6, 9);
        C.due("p20 none now", x.mend(0), 1);
        x.door(7);
        C.due("p20 the first of several", x.mend(0), 1);
        x.creak(7, 9);
        C.due("p20 by no board", x.mend(0), -5);
        C.due("p20 changes nothing", x.creak(1, 9), 9);
        C.due("p20 changes nothing", x.creak(7, 3), 9);
        OnTiptoe y = withWalker(0, 0, 0);
        y.door(2);
        y.toy(1, true);
        C.due("p20 the toy stays", y.mend(0), -5);
        Check.night(y, "hush 9 c=0&x=1");
        C.due("p20 its creak is 0 for the night, too", y.mend(0), 1);
        OnTiptoe z = withWalker(0, 0, 0);
        z.door(1);
        z.creak(1, 9);
        C.due("p20 the door", z.mend(0), 1);
    }

    private static void away() {
        OnTiptoe x = withWalker(0, 0, 0);
        C.due("p21 no toys", x.away(0), -5);
        x.door(2);
        x.toy(1, true);
        C.due("p21 fewer", x.away(0), 1);
        x.toy(6, true);
        C.due("p21 none now", x.away(0), 1);
        x.toy(1, false);
        C.due("p21 not fewer", x.away(0), -5);
        x.toy(1, true);
        x.door(7);
        C.due("p21 the first of several", x.away(0), 1);
        x.toy(7, true);
        C.due("p21 by no board", x.away(0), -5);
        C.due("p21 changes nothing", x.told(5), 2 + 64 + 128);
        OnTiptoe y = withWalker(0, 0, 0);
        y.door(2);
        y.toy(1, true);
        y.creak(1, 9);
        C.due("p21 it creaks all the same", y.away(0), -5);
        Check.night(y, "hush 3 t=0");
        C.due("p21 there is none for the night, too", y.away(0), 1);
    }

    private static void from() {
        OnTiptoe x = withWalker(0, 0, 0);
        C.due("p22", x.from(0), 4095);
        x.toy(3, true);
        x.toy(9, true);
        C.due("p22 behind toys", x.from(0), 8 + 16 + 32 + 512 + 1024 + 2048);
        x.toy(11, true);
        C.due("p22 the door itself", x.from(0), 2048);
        C.due("p22 changes nothing", x.of(0, 2), 0);
        x.door(0);
        x.toy(11, false);
        C.due("p22 another door", x.from(0), 1 + 2 + 4 + 8 + 64 + 128 + 256 + 512);
    }

    private static void deeper() {
        OnTiptoe x = withWalker(0, 0, 0);
        C.due("p23 as it is", x.deeper(0), 0);
        creakAll(x, 9);
        C.due("p23 one", x.deeper(0), 1);
        x.toy(11, true);
        C.due("p23 ten", x.deeper(0), 10);
        OnTiptoe y = withWalker(0, 0, 0);
        y.door(1);
        y.creak(1, 9);
        y.toy(1, true);
        Check.night(y, "deep 0 m<12;creak 12 t=1");
        C.due("p23 thirty", y.deeper(0), 30);
        Check.night(y, "deep 0 m<12;creak 13 t=1");
        C.due("p23 by none", y.deeper(0), -5);
        C.due("p23 changes nothing", y.told(3), 0);
        OnTiptoe z = withWalker(0, 0, 0);
        creakAll(z, 5);
        z.door(5);
        z.still(7);
        // Only at m 4, 5, 6 can it be dared, and three STIRS in a row would wake.
        Check.night(z, "deep 5 m<12;creak 40 m<4|m>6");
        C.due("p23 stirs look at the deeper depth, too", z.deeper(0), 5);
    }

    private static void nobody() {
        OnTiptoe x = withWalker(0, 0, 0);
        for (int walker : NO_WALKERS) {
            C.due("p16 no walker", x.goes(walker, 0), -1);
            C.due("p17 no walker", x.out(walker), -1);
            C.due("p18 no walker", x.quiet(walker, 0), -1);
            C.due("p19 no walker", x.set(walker, 0), -1);
            C.due("p20 no walker", x.mend(walker), -1);
            C.due("p21 no walker", x.away(walker), -1);
            C.due("p22 no walker", x.from(walker), -1);
            C.due("p23 no walker", x.deeper(walker), -1);
        }
    }
}
