/** Promises 1 to 11: a new object, boards, walkers, nights. */
public final class BoardsTest {
    private static final Check C = new Check();

    public static void main(String[] args) {
        aNewObject();
        creak();
        toy();
        door();
        walker();
        of();
        noiseOfEachKind();
        put();
        row();
        feed();
        nightNumbers();
        nightFaults();
        nightBehindFaults();
        nightDepths();
        nightLouds();
        told();
        C.end("BoardsTest");
    }

    private static void aNewObject() {
        OnTiptoe x = new OnTiptoe();
        for (int b = 0; b < 12; b++) {
            C.due("p1 creak at first", x.creak(b, 3), 3);
        }
        for (int what = 0; what <= 6; what++) {
            C.due("p1 count " + what, x.count(what), 0);
        }
        int[] told = {0, 0, 0, 8, 11, 0};
        for (int what = 0; what < told.length; what++) {
            C.due("p1 told " + what, x.told(what), told[what]);
        }
        C.due("p1 of", x.of(0, 0), -1);
        C.due("p1 undo", x.undo(), -3);
        C.due("p1 trace", x.trace(0), -1);
        C.due("p1 read", x.read(0, 0), Long.MIN_VALUE);
        C.due("p1 who", x.who(), 0);
        C.due("p1 looked", x.looked(), -5);
        C.due("p1 NONE", OnTiptoe.NONE, -1);
        C.due("p1 BAD", OnTiptoe.BAD, -2);
        C.due("p1 STATE", OnTiptoe.STATE, -3);
        C.due("p1 FULL", OnTiptoe.FULL, -4);
        C.due("p1 NO", OnTiptoe.NO, Long.MIN_VALUE);
    }

    private static void creak() {
        OnTiptoe x = new OnTiptoe();
        C.due("p2", x.creak(0, 9), 3);
        C.due("p2 what it was", x.creak(0, 0), 9);
        C.due("p2 again", x.creak(0, 5), 0);
        C.due("p2 the last board", x.creak(11, 1), 3);
        C.due("p2 no board", x.creak(12, 0), -1);
        C.due("p2 no board", x.creak(-1, 0), -1);
        C.due("p2 no board ahead of n", x.creak(12, 10), -1);
        C.due("p2 n above", x.creak(0, 10), -2);
        C.due("p2 n below", x.creak(0, -1), -2);
        C.due("p2 nothing changed", x.creak(0, 5), 5);
        C.due("p2 no board", x.creak(Integer.MIN_VALUE, 5), -1);
    }

    private static void toy() {
        OnTiptoe x = new OnTiptoe();
        C.due("p3", x.toy(4, true), 0);
        C.due("p3 it did", x.toy(4, true), 1);
        C.due("p3 toys", x.told(5), 16);
        C.due("p3 another", x.toy(11, true), 0);
        C.due("p3 toys", x.told(5), 16 + 2048);
        C.due("p3 off", x.toy(4, false), 1);
        C.due("p3 off again", x.toy(4, false), 0);
        C.due("p3 toys", x.told(5), 2048);
        C.due("p3 no board", x.toy(12, true), -1);
        C.due("p3 no board", x.toy(-1, true), -1);
        C.due("p3 no board", x.toy(43, true), -1);
        C.due("p3 toys", x.told(5), 2048);
    }

    private static void door() {
        OnTiptoe x = new OnTiptoe();
        C.due("p4", x.door(0), 11);
        C.due("p4", x.door(5), 0);
        C.due("p4 told", x.told(4), 5);
        C.due("p4 no board", x.door(12), -1);
        C.due("p4 no board", x.door(-1), -1);
        C.due("p4 told", x.told(4), 5);
    }

    private static void walker() {
        OnTiptoe x = new OnTiptoe();
        C.due("p5 no kind", x.walker(7, 0, 0), -1);
        C.due("p5 no kind", x.walker(-1, 0, 0), -1);
        C.due("p5 no board", x.walker(0, 0, 12), -1);
        C.due("p5 no board", x.walker(0, 0, -1), -1);
        C.due("p5 no board ahead of v", x.walker(0, 10, 12), -1);
        C.due("p5 v", x.walker(0, 10, 0), -2);
        C.due("p5 v", x.walker(0, -1, 0), -2);
        C.due("p5 nobody yet", x.count(0), 0);
        C.due("p5", x.walker(6, 9, 11), 0);
        C.due("p5", x.walker(0, 0, 0), 1);
        C.due("p5", x.walker(3, 1, 4), 2);
        C.due("p5", x.walker(5, 2, 4), 3);
        C.due("p5 full", x.walker(0, 0, 0), -4);
        C.due("p5 no kind ahead of full", x.walker(7, 0, 0), -1);
        C.due("p5 v ahead of full", x.walker(0, 10, 0), -2);
        C.due("p5 count", x.count(0), 4);
        C.due("p5 kind", x.of(0, 0), 6);
        C.due("p5 v", x.of(0, 1), 9);
        C.due("p5 board", x.of(0, 2), 11);
    }

    private static void of() {
        OnTiptoe x = new OnTiptoe();
        for (int kind = 3; kind < 7; kind++) {
            x.walker(kind, kind + 1, kind + 2);
        }
        for (int i = 0; i < 4; i++) {
            C.due("p6 kind", x.of(i, 0), i + 3);
            C.due("p6 v", x.of(i, 1), i + 4);
            C.due("p6 board", x.of(i, 2), i + 5);
        }
        int[] none = {-1, 3, 9, 22, Integer.MAX_VALUE, Integer.MIN_VALUE};
        for (int what : none) {
            C.due("p6 no such what " + what, x.of(0, what), -1);
        }
        C.due("p6 no walker", x.of(4, 0), -1);
        C.due("p6 no walker", x.of(-1, 0), -1);
        C.due("p6 changes nothing", x.of(0, 2), 5);
    }

    private static void noiseOfEachKind() {
        // v 4 each; BOARD 0 creaks 9, 1 creaks 2, 2 has a TOY and creaks 5.
        int[][] due = {{9, 2, 14}, {13, 6, 18}, {4, 1, 7}, {6, 0, 11}, {13, 6, 18}, {4, 0, 7}, {6, 0, 11}};
        for (int kind = 0; kind < 7; kind++) {
            OnTiptoe x = new OnTiptoe();
            x.creak(0, 9);
            x.creak(1, 2);
            x.creak(2, 5);
            x.toy(2, true);
            x.walker(kind, 4, 11);
            for (int b = 0; b < 3; b++) {
                C.due("p6 noise of kind " + kind + " on " + b, x.of(0, 10 + b), due[kind][b]);
            }
            C.due("p6 noise of kind " + kind + " on the last", x.of(0, 21), due[kind][1] + new int[] {1, 1, 0, 0, 1, 0, 0}[kind]);
        }
        OnTiptoe x = new OnTiptoe();
        x.walker(4, 1, 0);
        x.walker(5, 3, 0);
        x.walker(5, 2, 0);
        int[] tired = {4, 5, 6, 4, 5};
        for (int minute = 0; minute < 5; minute++) {
            C.due("p6 tired at " + minute, x.of(0, 10), tired[minute]);
            x.still(1);
        }
        C.due("p6 bare, loud as v", x.of(1, 10), 0);
        C.due("p6 bare, loud above v", x.of(2, 10), 1);
    }

    private static void put() {
        OnTiptoe x = new OnTiptoe();
        x.walker(0, 0, 3);
        C.due("p7", x.put(0, 9), 3);
        C.due("p7 far away", x.put(0, 0), 9);
        C.due("p7 is there", x.of(0, 2), 0);
        C.due("p7 no walker", x.put(1, 0), -1);
        C.due("p7 no walker", x.put(-1, 0), -1);
        C.due("p7 no board", x.put(0, 12), -1);
        C.due("p7 no board", x.put(0, -2), -1);
        C.due("p7 is there", x.of(0, 2), 0);
        C.due("p7 no minute", x.told(0), 0);
    }

    private static void row() {
        OnTiptoe x = new OnTiptoe();
        x.walker(6, 0, 0);
        x.walker(3, 0, 0);
        for (int part = 0; part < 4; part++) {
            C.due("p8 at first", x.row(0, part, 9 - part), 0);
        }
        for (int part = 0; part < 4; part++) {
            C.due("p8 as it was", x.row(0, part, 9 - part), 9 - part);
        }
        C.due("p8 no walker", x.row(2, 0, 0), -1);
        C.due("p8 no walker", x.row(-1, 0, 0), -1);
        C.due("p8 no part", x.row(0, 4, 0), -1);
        C.due("p8 no part", x.row(0, -1, 0), -1);
        C.due("p8 no part ahead of state", x.row(1, 4, 0), -1);
        C.due("p8 n", x.row(0, 0, 10), -2);
        C.due("p8 n", x.row(0, 0, -1), -2);
        C.due("p8 n ahead of state", x.row(1, 0, 10), -2);
        C.due("p8 another kind", x.row(1, 0, 0), -3);
        int[] due = {9, 8, 7, 6, 9};
        for (int minute = 0; minute < 5; minute++) {
            C.due("p8 noise at " + minute, x.of(0, 10), due[minute]);
            x.still(1);
        }
    }

    private static void feed() {
        OnTiptoe x = new OnTiptoe();
        C.due("p9 below", x.feed(-1), -2);
        C.due("p9 above", x.feed(128), -2);
        for (int i = 1; i <= 100; i++) {
            C.due("p9", x.feed(i == 1 ? 0 : 127), i);
        }
        C.due("p9 full", x.feed(0), -4);
        C.due("p9 bad ahead of full", x.feed(128), -2);
        C.due("p9 count", x.count(5), 100);
        C.due("p9 the fault", x.night(), -10);
        C.due("p9 empty then", x.feed(1), 1);
    }

    private static void nightNumbers() {
        OnTiptoe x = new OnTiptoe();
        for (int i = 0; i < 6; i++) {
            C.due("p10", Check.night(x, "deep 1" + i + " m<12"), i);
            C.due("p10 the newest holds", x.told(3), 10 + i);
            C.due("p10 the text is empty then", x.count(5), 0);
            if (i == 3) {
                C.due("p10 a fault", Check.night(x, "deep 1 q"), -17);
                C.due("p10 the text is empty then", x.count(5), 0);
                C.due("p10 the one that held holds", x.told(3), 13);
                C.due("p10 count", x.count(1), 4);
            }
        }
        C.due("p10 full", Check.night(x, "deep 7 m<12"), -4);
        C.due("p10 the text stays", x.count(5), 11);
        C.due("p10 full", x.night(), -4);
        C.due("p10 the newest holds", x.told(3), 15);
        C.due("p10 count", x.count(1), 6);
    }

    private static void fault(String text, int place) {
        C.due("p10 night of '" + text + "'", Check.night(new OnTiptoe(), text), place < 0 ? 0 : -10 - place);
    }

    private static void nightFaults() {
        fault("", 0);
        fault(" deep 1 m=1", 0);
        fault("Deep 1 m=1", 0);
        fault("d", 1);
        fault("dree 1 m=1", 1);
        fault("deep", 4);
        fault("deep1 m=1", 4);
        fault("deep  1 m=1", 5);
        fault("deep m=1", 5);
        fault("deep 1", 6);
        fault("deep 1m=1", 6);
        fault("deep 12", 7);
        fault("deep 123 m=1", 7);
        fault("deep 12  m=1", 8);
        fault("creak 0 ", 8);
        fault("hush 00 m", 9);
        fault("hush 00 m1", 9);
        fault("hush 00 m=", 10);
        fault("hush 00 m=x", 10);
        fault("hush 00 m=1", -1);
        fault("hush 00 m=12", -1);
        fault("hush 00 m=123", 12);
        fault("hush 00 m=1 ", 11);
        fault("hush 00 m=1;", 12);
        fault("hush 00 m=1;;", 12);
        fault("hush 00 m=1; deep", 12);
        fault("hush 00 m=1&", 12);
        fault("hush 00 m=1&&", 12);
        fault("hush 00 m=1|", 12);
        fault("hush 00 m=1)", 11);
        fault("hush 00 (m=1", 12);
        fault("hush 00 (m=1;", 12);
        fault("hush 00 ()", 9);
        fault("hush 00 !", 9);
        fault("hush 00 m==1", 10);
        fault("hush 00 M=1", 8);
        fault("hush 00 \u0000=1", 8);
        fault("deep 1 m<3|x>2&y=0|!(c<9&t=1)", -1);
        fault("deep 1 ((((x=1))))", -1);
        fault("deep 1 (((((x=1)))))", 11);
        fault("deep 1 !!!!x=1", -1);
        fault("deep 1 !!!!!x=1", 11);
        fault("deep 1 !(!(x=1))", -1);
        fault("deep 1 !(!((x=1)))", 11);
        fault("deep 1 !(!(!x=1))", 11);
        fault("deep 1 ((((x=1))))&!!!!m=1|((((k=2&y=1))))", -1);
        fault("deep 1 !!m=1&!!m=1&!!m=1", -1);
        fault("deep 1 m=1;creak 2 k<3&t=1;hush 99 y>0", -1);
        nightOfTenClauses();
    }

    private static void nightOfTenClauses() {
        // The shortest CLAUSE has 10 bytes, so a NIGHT of ten does not fit into THE TEXT of 100.
        StringBuilder nine = new StringBuilder("deep 1 m<9");
        for (int i = 1; i < 9; i++) {
            nine.append(";deep 1 m<9");
        }
        fault(nine.toString(), -1);
        fault(nine + ";", 99);
        OnTiptoe x = new OnTiptoe();
        C.due("p10 nine clauses", Check.night(x, nine.toString()), 0);
        C.due("p10 nine clauses, together", x.told(3), 9);
        C.due("p10 a text of 100", Check.feed(x, nine + ";d"), 100);
        C.due("p10 a text of 100 ends too early", x.night(), -110);
    }

    private static void nightBehindFaults() {
        OnTiptoe x = new OnTiptoe();
        for (int i = 0; i < 10; i++) {
            C.due("p10 a fault behind much", Check.night(x, "deep 9 !m=1&m<2|m=3;creak 9 x=2|x=3 "), -45);
        }
        C.due("p10 nothing of it is left", Check.night(x, "creak 1 x=2&!y=1"), 0);
        C.due("p10 no deep clause is left", x.told(3), 8);
        x.walker(0, 0, 0);
        C.due("p10 no creak clause is left", x.of(0, 13), 3);
        C.due("p10 it holds", x.of(0, 12), 4);
        C.due("p10 it holds", x.of(0, 18), 3);
    }

    private static int depthBy(String text, int minute) {
        OnTiptoe x = new OnTiptoe();
        C.due("p10 night of " + text, Check.night(x, text), 0);
        for (int gone = 0; gone < minute; gone += 30) {
            x.still(Math.min(30, minute - gone));
        }
        return x.told(3);
    }

    private static void nightDepths() {
        C.due("p10 no deep clause", depthBy("creak 9 m<12", 0), 8);
        C.due("p10 none holds", depthBy("deep 9 m=1", 0), 0);
        C.due("p10 modulo 12", depthBy("deep 9 m=1", 13), 9);
        C.due("p10 modulo 12", depthBy("deep 9 m=1", 12), 0);
        C.due("p10 modulo 12", depthBy("deep 9 m=11", 35), 9);
        C.due("p10 never", depthBy("deep 9 m=12", 12), 0);
        C.due("p10 together", depthBy("deep 9 m<2;creak 5 m<2;deep 20 m>0", 1), 29);
        C.due("p10 together", depthBy("deep 9 m<2;creak 5 m<2;deep 20 m>0", 2), 20);
        C.due("p10 deep: x, y, c, k, t are 0", depthBy("deep 9 x=0&y=0&c=0&k=0&t=0", 7), 9);
        C.due("p10 deep: not above 0", depthBy("deep 9 x>0|y>0|c>0|k>0|t>0", 7), 0);
        C.due("p10 & ahead of |", depthBy("deep 9 m=5|m=1&m=2", 5), 9);
        C.due("p10 & ahead of |", depthBy("deep 9 m=1&m=2|m=5", 5), 9);
        C.due("p10 & ahead of |", depthBy("deep 9 (m=5|m=1)&m=2", 5), 0);
        C.due("p10 ! of a test alone", depthBy("deep 9 !m=5&m=5", 5), 0);
        C.due("p10 ! of a test alone", depthBy("deep 9 !m=5|m=5", 5), 9);
        C.due("p10 !( )", depthBy("deep 9 !(m=5|m=6)", 6), 0);
        C.due("p10 !( )", depthBy("deep 9 !(m=5|m=6)", 7), 9);
        C.due("p10 !!", depthBy("deep 9 !!m=5", 5), 9);
        C.due("p10 !!!", depthBy("deep 9 !!!m=5", 5), 0);
        C.due("p10 < and >", depthBy("deep 4 m<5;deep 30 m>5", 5), 0);
        C.due("p10 three of &", depthBy("deep 4 m<9&m>3&m=5", 5), 4);
        C.due("p10 three of |", depthBy("deep 4 m=9|m=3|m=5", 5), 4);
        C.due("p10 two digits", depthBy("deep 99 m=05", 5), 99);
    }

    private static int loudBy(String text, int board) {
        OnTiptoe x = new OnTiptoe();
        C.due("p10 night of " + text, Check.night(x, text), 0);
        x.creak(7, 5);
        x.toy(8, true);
        x.walker(0, 0, 0);
        return x.of(0, 10 + board);
    }

    private static void nightLouds() {
        C.due("p10 x", loudBy("creak 4 x=5", 5), 7);
        C.due("p10 x", loudBy("creak 4 x=5", 11), 7);
        C.due("p10 x", loudBy("creak 4 x=5", 6), 3);
        C.due("p10 y", loudBy("creak 4 y=1", 6), 7);
        C.due("p10 y", loudBy("creak 4 y=1", 5), 3);
        C.due("p10 c", loudBy("creak 4 c=5", 7), 9);
        C.due("p10 c", loudBy("creak 4 c=5", 6), 3);
        C.due("p10 t", loudBy("creak 4 t=1", 8), 16);
        C.due("p10 t", loudBy("creak 4 t=1", 7), 5);
        C.due("p10 c has no toy in it", loudBy("creak 4 c=3", 8), 16);
        C.due("p10 hush", loudBy("hush 2 x=5", 5), 1);
        C.due("p10 hush, 0 at least", loudBy("hush 9 x=5", 5), 0);
        C.due("p10 hush and creak", loudBy("hush 9 x=5;creak 7 x=5", 5), 1);
        C.due("p10 creak ahead of the 0 at least", loudBy("hush 90 x=5;creak 99 x=5;hush 10 m=0", 5), 2);
        C.due("p10 deep is not loud", loudBy("deep 9 x=5", 5), 3);
        OnTiptoe x = new OnTiptoe();
        Check.night(x, "creak 9 k=4;creak 20 k<3");
        x.walker(1, 0, 0);
        x.walker(4, 0, 0);
        x.walker(0, 0, 0);
        C.due("p10 k of HEAVY", x.of(0, 10), 23);
        C.due("p10 k of TIRED", x.of(1, 10), 12);
        C.due("p10 k of WALKER", x.of(2, 10), 23);
    }

    private static void told() {
        OnTiptoe x = new OnTiptoe();
        x.walker(1, 2, 0);
        x.toy(3, true);
        x.toy(0, true);
        x.door(7);
        C.due("p11 a step", x.step(0, 1), 5);
        C.due("p11 minute", x.told(0), 1);
        C.due("p11 stirs", x.told(1), 1);
        C.due("p11 awake", x.told(2), 0);
        C.due("p11 depth", x.told(3), 8);
        C.due("p11 the door", x.told(4), 7);
        C.due("p11 toys", x.told(5), 9);
        C.due("p11 a step onto a toy", x.step(0, 0), 14);
        C.due("p11 awake", x.told(2), 1);
        C.due("p11 stirs", x.told(1), 0);
        C.due("p11 no what", x.told(6), -1);
        C.due("p11 no what", x.told(-1), -1);
    }
}
