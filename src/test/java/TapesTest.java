/** Promises 31 to 40: the image, acts, tapes. */
public final class TapesTest {
    private static final Check C = new Check();
    private static final long NO = Long.MIN_VALUE;

    public static void main(String[] args) {
        imageKeepsAll();
        imageLeavesTheRest();
        imageOfFewer();
        acts();
        actsWrap();
        trace();
        taken();
        count();
        tape();
        item();
        shift();
        C.end("TapesTest");
    }

    private static void imageKeepsAll() {
        OnTiptoe x = new OnTiptoe();
        C.due("p32 there is none", x.undo(), -3);
        x.walker(6, 2, 3);
        x.walker(0, 3, 4);
        x.row(0, 1, 7);
        x.creak(2, 9);
        x.toy(3, true);
        x.door(8);
        x.creak(5, 5);
        x.step(1, 5);
        x.way(2);
        x.way(-2);
        x.see(2, 4, true);
        x.book(8);
        Check.night(x, "deep 20 m<12");
        C.due("p31", x.image(), 2);
        Check.night(x, "deep 30 m<12");
        x.walker(1, 1, 1);
        x.put(0, 9);
        x.put(1, 9);
        x.row(0, 1, 3);
        x.row(0, 2, 3);
        x.creak(2, 0);
        x.toy(3, false);
        x.toy(4, true);
        x.door(1);
        x.still(9);
        x.creak(8, 9);
        x.toy(8, true);
        x.way(-1);
        x.way(7);
        x.see(-1, 0, true);
        x.book(-1);
        x.book(1);
        x.book(2);
        C.due("p32", x.undo(), 2);
        C.due("p32 walkers", x.count(0), 2);
        C.due("p32 the third is gone", x.of(2, 0), -1);
        C.due("p32 where the first is", x.of(0, 2), 3);
        C.due("p32 where the second is", x.of(1, 2), 5);
        C.due("p32 its row", x.row(0, 1, 7), 7);
        C.due("p32 its row", x.row(0, 2, 0), 0);
        C.due("p32 creak", x.creak(2, 9), 9);
        C.due("p32 creak", x.creak(8, 3), 3);
        C.due("p32 toys", x.told(5), 8);
        C.due("p32 the door", x.told(4), 8);
        C.due("p32 minute", x.told(0), 1);
        C.due("p32 stirs", x.told(1), 1);
        C.due("p32 which night holds", x.told(3), 20);
        C.due("p32 the way", x.count(2), 2);
        C.due("p32 the way", x.goes(0, 1), 2);
        C.due("p32 seen", x.count(3), 1);
        C.due("p32 seen", x.who(), 0);
        C.due("p32 the book", x.count(4), 1);
        C.due("p32 the book", x.looked(), 0);
        C.due("p32 again", x.undo(), 2);
        imageKeepsRows();
        C.due("p31 another walker's number", x.walker(2, 5, 6), 2);
        C.due("p31 it is another one", x.of(2, 0), 2);
    }

    private static void imageKeepsRows() {
        OnTiptoe x = new OnTiptoe();
        x.walker(1, 6, 0);
        x.walker(0, 0, 0);
        Check.night(x, "deep 8 m<5;deep 6 m=5");
        x.see(3, 5, true);
        x.see(4, 1, false);
        x.creak(4, 2);
        x.way(1);
        x.way(2);
        x.book(8);
        x.book(7);
        C.due("p31", x.image(), 2);
        C.due("p25", x.who(), 1);
        x.see(-1, 0, true);
        x.see(7, 1, false);
        x.see(8, 2, true);
        x.way(-1);
        x.way(6);
        x.book(-1);
        x.book(7);
        C.due("p32", x.undo(), 2);
        C.due("p32 seen: where, when, whether it woke", x.who(), 1);
        C.due("p32 seen", x.count(3), 2);
        C.due("p32 the way", x.goes(1, 1), 2);
        C.due("p32 the book", x.looked(), 1);
        x.creak(3, 0);
        C.due("p32 seen on BOARD 3", x.who(), 0);
        x.creak(3, 3);
        x.still(1);
        C.due("p32 seen 5 MINUTES on", x.who(), 3);
    }

    private static void imageLeavesTheRest() {
        OnTiptoe x = new OnTiptoe();
        x.walker(0, 0, 0);
        C.due("p31", x.image(), 1);
        Check.night(x, "deep 9 m<12");
        Check.feed(x, "deep ");
        x.tape(2, 3, 4);
        x.item(2, 1, 77);
        x.act(0, 2, 5);
        C.due("p32", x.undo(), 1);
        C.due("p32 no night holds", x.told(3), 8);
        C.due("p32 the nights are there", x.count(1), 1);
        C.due("p32 the text stays", x.count(5), 5);
        C.due("p32 the tapes stay", x.read(2, 1), 77);
        C.due("p32 the trace stays", x.trace(0), 12);
        C.due("p32 the next night's number", Check.night(x, "10 m<12"), 1);
        C.due("p32 it holds", x.told(3), 10);
        x.creak(0, 9);
        x.step(0, 1);
        x.toy(0, true);
        x.step(0, 0);
        C.due("p31 awake", x.told(2), 1);
        x.image();
        x.lull();
        x.undo();
        C.due("p32 awake", x.told(2), 1);
        x.undo();
        C.due("p32 which night holds", x.told(3), 10);
    }

    private static void imageOfFewer() {
        OnTiptoe x = new OnTiptoe();
        C.due("p31 nobody", x.image(), 0);
        for (int i = 0; i < 4; i++) {
            x.walker(6, i, i);
            x.row(i, 0, 5);
        }
        x.act(2, 0, 1);
        C.due("p32 nobody", x.undo(), 0);
        C.due("p32 nobody", x.count(0), 0);
        C.due("p32 the trace stays", x.trace(0), 71);
        C.due("p32 nobody to act", x.act(2, 0, 1), 0);
        C.due("p33 no trace then", x.trace(0), -1);
        C.due("p5 from 0 on", x.walker(6, 1, 1), 0);
        C.due("p8 a row of its own", x.row(0, 0, 1), 0);
        x.walker(6, 2, 2);
        C.due("p31", x.image(), 2);
        x.put(0, 7);
        x.put(1, 8);
        C.due("p32", x.undo(), 2);
        C.due("p32 where it was", x.of(0, 2), 1);
        C.due("p32 where it was", x.of(1, 2), 2);
        C.due("p32 its row", x.row(0, 0, 1), 1);
    }

    private static void actIs(OnTiptoe x, int walker, int act, int x0, int due, int... bodies) {
        String what = " of " + walker + ", act " + act + " with " + x0;
        C.due("p33" + what, x.act(walker, act, x0), due);
        C.due("p36 bodies" + what, x.count(6), bodies.length);
        for (int i = 0; i < bodies.length; i++) {
            C.due("p34 body " + i + what, x.trace(i), bodies[i]);
        }
        C.due("p34 no more" + what, x.trace(bodies.length), -1);
    }

    private static void acts() {
        OnTiptoe x = new OnTiptoe();
        x.walker(0, 2, 0);
        x.walker(4, 3, 0);
        x.walker(5, 4, 0);
        x.walker(6, 5, 0);
        actIs(x, 0, 0, 5, 5, 10);
        actIs(x, 0, 1, 5, 3, 11, 10);
        actIs(x, 0, 2, 5, 6, 12, 11, 10);
        actIs(x, 1, 0, 5, -6, 50, 10);
        actIs(x, 1, 1, 5, -16, 51, 20, 11, 50, 10);
        actIs(x, 1, 2, 5, -32, 12, 51, 20, 11, 50, 10);
        actIs(x, 2, 0, 5, 17, 30, 10);
        actIs(x, 2, 1, 5, 13, 11, 30, 10);
        actIs(x, 2, 2, 5, 14, 60, 12, 11, 30, 10);
        actIs(x, 3, 0, 5, 13, 71, 10);
        actIs(x, 3, 1, 5, 13, 70, 11, 71, 10, 10);
        actIs(x, 3, 2, 5, 27, 40, 12, 70, 11, 71, 10, 10, 70, 11, 71, 10, 10);
        OnTiptoe y = new OnTiptoe();
        y.walker(1, 1, 0);
        y.walker(2, 2, 0);
        y.walker(3, 3, 0);
        actIs(y, 0, 0, 6, 6, 10);
        actIs(y, 0, 1, 6, 3, 20, 11, 10);
        actIs(y, 0, 2, 6, 6, 12, 20, 11, 10);
        actIs(y, 1, 0, 5, 16, 30, 10);
        actIs(y, 1, 1, 5, 14, 11, 30, 10);
        actIs(y, 1, 2, 5, 28, 12, 11, 30, 10);
        actIs(y, 2, 0, 5, 7, 10);
        actIs(y, 2, 1, 5, 4, 11, 10);
        actIs(y, 2, 2, 5, 8, 40, 12, 11, 10, 11, 10);
    }

    private static void actsWrap() {
        OnTiptoe x = new OnTiptoe();
        x.walker(2, 0, 0);
        x.walker(4, 9, 0);
        C.due("p33 wraps", x.act(0, 0, 1000000000), 3000000000L - 4294967296L);
        C.due("p33 wraps", x.act(1, 0, Integer.MAX_VALUE), Integer.MIN_VALUE);
        C.due("p33 wraps", x.act(0, 2, Integer.MAX_VALUE), -6);
    }

    private static void trace() {
        OnTiptoe x = new OnTiptoe();
        x.walker(0, 0, 0);
        C.due("p34 none yet", x.trace(0), -1);
        x.act(0, 2, 0);
        C.due("p34", x.trace(2), 10);
        C.due("p34 below", x.trace(-1), -1);
        C.due("p34 beyond", x.trace(3), -1);
        C.due("p34 far beyond", x.trace(20), -1);
        C.due("p33 no such walker", x.act(1, 0, 9), 0);
        C.due("p33 no trace then", x.count(6), 0);
        C.due("p33 no trace then", x.trace(0), -1);
        x.act(0, 2, 0);
        C.due("p33 no such act", x.act(0, 3, 9), 0);
        C.due("p33 no trace then", x.trace(0), -1);
        x.act(0, 2, 0);
        C.due("p33 no such act", x.act(0, -1, 9), 0);
        C.due("p33 no trace then", x.count(6), 0);
        x.act(0, 2, 0);
        C.due("p33 no such walker", x.act(-1, 0, 9), 0);
        C.due("p33 no trace then", x.count(6), 0);
    }

    private static void taken() {
        int[] above = {-1, 0, 0, 0, 1, 2, 3};
        for (int kind = 0; kind < 7; kind++) {
            OnTiptoe x = new OnTiptoe();
            x.walker(kind, 0, 0);
            for (int k = 0; k < 7; k++) {
                boolean is = k == kind || k == 0 || k == above[kind];
                C.due("p35 kind " + kind + " for " + k, x.taken(0, k), is ? kind : -12);
            }
        }
        OnTiptoe x = new OnTiptoe();
        x.walker(0, 0, 0);
        C.due("p35 k", x.taken(0, 7), -2);
        C.due("p35 k", x.taken(0, -1), -2);
        C.due("p35 k ahead of nothing", x.taken(4, 7), -2);
        C.due("p35 nothing", x.taken(1, 0), -11);
        C.due("p35 nothing", x.taken(-1, 6), -11);
    }

    private static void count() {
        OnTiptoe x = new OnTiptoe();
        x.walker(0, 0, 0);
        Check.night(x, "deep 8 m<9");
        Check.night(x, "deep 8 m<9");
        for (int i = 1; i <= 5; i++) {
            if (i <= 3) {
                x.way(i);
            }
            if (i <= 4) {
                x.see(i, 0, true);
            }
            x.book(i);
        }
        Check.feed(x, "deep 8");
        x.act(0, 1, 0);
        int[] due = {1, 2, 3, 4, 5, 6, 2};
        for (int what = 0; what < 7; what++) {
            C.due("p36 " + what, x.count(what), due[what]);
        }
        C.due("p36 no what", x.count(7), -2);
        C.due("p36 no what", x.count(-1), -2);
    }

    private static void tape() {
        OnTiptoe x = new OnTiptoe();
        C.due("p37 no tape", x.tape(6, 0, 1), -1);
        C.due("p37 no tape", x.tape(-1, -1, 1), -1);
        C.due("p37 no tape ahead of the sort", x.tape(6, 9, 1), -1);
        C.due("p37 sort", x.tape(0, 5, 1), -2);
        C.due("p37 sort", x.tape(0, -2, 1), -2);
        C.due("p37 n above", x.tape(0, 0, 61), -2);
        C.due("p37 n below", x.tape(0, 0, -1), -14);
        C.due("p37 sort ahead of size", x.tape(0, 5, -1), -2);
        C.due("p37 nothing there yet", x.read(0, 0), NO);
        C.due("p37", x.tape(0, 4, 60), 1);
        C.due("p37 all 0", x.read(0, 59), 0);
        C.due("p37 no more", x.read(0, 60), NO);
        x.item(0, 59, 1);
        C.due("p37 refused", x.tape(0, 0, 61), -2);
        C.due("p37 nothing changed", x.read(0, 59), 1);
        C.due("p37 anew", x.tape(0, 3, 60), 1);
        C.due("p37 all 0", x.read(0, 59), 0);
        C.due("p37 none", x.tape(0, 0, 0), 1);
        C.due("p37 none", x.read(0, 0), NO);
        C.due("p38 a row of none", x.item(0, 0, 1), -13);
        C.due("p37 nothing, n does not matter", x.tape(0, -1, 99), 1);
        C.due("p37 nothing, n does not matter", x.tape(0, -1, -99), 1);
        C.due("p37 nothing", x.item(0, 0, 1), -11);
    }

    private static void item() {
        OnTiptoe x = new OnTiptoe();
        C.due("p38 no tape", x.item(6, 0, 1), -1);
        C.due("p38 no tape", x.item(-1, 0, 1), -1);
        C.due("p38 nothing", x.item(0, 0, 1), -11);
        C.due("p38 nothing ahead of the place", x.item(0, -1, 1), -11);
        long[] values = {0, 1, -1, 127, 128, 255, 256, 32768, 70000, 2147483648L, 4294967296L, Long.MIN_VALUE, Long.MAX_VALUE};
        for (int sort = 0; sort < 5; sort++) {
            C.due("p37", x.tape(sort, sort, 3), 1);
            for (long v : values) {
                C.due("p38", x.item(sort, 2, v), 1);
                long[] due = {(byte) v, (short) v, (int) v, v, v != 0 ? 1 : 0};
                C.due("p39 " + v + " of sort " + sort, x.read(sort, 2), due[sort]);
            }
            C.due("p39 the others", x.read(sort, 1), 0);
            C.due("p38 place", x.item(sort, 3, 1), -13);
            C.due("p38 place", x.item(sort, -1, 1), -13);
            C.due("p39 no place", x.read(sort, 3), NO);
            C.due("p39 no place", x.read(sort, -1), NO);
        }
        C.due("p39 no tape", x.read(6, 0), NO);
        C.due("p39 no tape", x.read(-1, 0), NO);
        C.due("p39 nothing there", x.read(5, 0), NO);
    }

    private static void shift() {
        OnTiptoe x = new OnTiptoe();
        x.tape(0, 2, 5);
        x.tape(1, 2, 3);
        x.tape(2, 3, 3);
        for (int i = 0; i < 5; i++) {
            x.item(0, i, i + 1);
        }
        C.due("p40 no tape", x.shift(6, 0, 0, 0, 1), -1);
        C.due("p40 no tape", x.shift(0, 0, 6, 0, 1), -1);
        C.due("p40 no tape", x.shift(-1, 0, 0, 0, 1), -1);
        C.due("p40 no tape ahead of nothing", x.shift(5, 0, -1, 0, 1), -1);
        C.due("p40 nothing", x.shift(0, 0, 5, 0, 1), -11);
        C.due("p40 nothing", x.shift(5, 0, 0, 0, 1), -11);
        C.due("p40 unlike sorts", x.shift(0, 0, 2, 0, 1), -12);
        C.due("p40 unlike sorts ahead of the place", x.shift(0, -1, 2, 0, 1), -12);
        int[][] outside = {{-1, 0, 1}, {0, -1, 1}, {0, 0, -1}, {5, 0, 1}, {3, 0, 3}, {0, 3, 1}, {0, 1, 3}, {0, 0, 4},
            {6, 0, 0}, {0, 4, 0}, {Integer.MAX_VALUE, 0, 1}, {1, Integer.MAX_VALUE, 1}, {1, 1, Integer.MAX_VALUE},
            {Integer.MAX_VALUE, 0, Integer.MAX_VALUE}, {Integer.MIN_VALUE, 0, 1}};
        for (int[] o : outside) {
            C.due("p40 place " + o[0] + " " + o[1] + " " + o[2], x.shift(0, o[0], 1, o[1], o[2]), -13);
        }
        C.due("p40 none at both ends", x.shift(0, 5, 1, 3, 0), 0);
        C.due("p40", x.shift(0, 1, 1, 0, 3), 3);
        long[] other = {2, 3, 4};
        for (int i = 0; i < 3; i++) {
            C.due("p40 the other", x.read(1, i), other[i]);
        }
        C.due("p40 onto itself, to the right", x.shift(0, 0, 0, 1, 4), 4);
        long[] right = {1, 1, 2, 3, 4};
        for (int i = 0; i < 5; i++) {
            C.due("p40 to the right", x.read(0, i), right[i]);
        }
        C.due("p40 onto itself, to the left", x.shift(0, 2, 0, 0, 3), 3);
        long[] left = {2, 3, 4, 3, 4};
        for (int i = 0; i < 5; i++) {
            C.due("p40 to the left", x.read(0, i), left[i]);
        }
    }
}
