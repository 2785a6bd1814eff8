/** The bounds that the document names for promises 1 to 8: boards, toys, the door, walkers, rows. */
public final class BoardEdgesTest {
    private static final Check C = new Check();
    /** Which BOARDS are BESIDE each. */
    private static final int[][] BESIDE = {{1, 6}, {0, 2, 7}, {1, 3, 8}, {2, 4, 9}, {3, 5, 10}, {4, 11},
        {0, 7}, {1, 6, 8}, {2, 7, 9}, {3, 8, 10}, {4, 9, 11}, {5, 10}};

    public static void main(String[] args) {
        boards();
        xAndY();
        beside();
        atFirst();
        creaks();
        toys();
        walkers();
        asked();
        puts();
        rows();
        C.end("BoardEdgesTest");
    }

    private static void boards() {
        C.edge("BOARDS 0 .. 11", """
            creak 0 4 = 3
            creak 11 4 = 3
            creak -1 4 = -1
            creak 12 4 = -1
            creak MAX 4 = -1
            creak MIN 4 = -1
            toy 0 true = 0
            toy 11 true = 0
            toy -1 true = -1
            toy 12 true = -1
            toy 32 true = -1
            toy 43 true = -1
            toy MIN true = -1
            told 5 = 2049
            door 0 = 11
            door 11 = 0
            door -1 = -1
            door 12 = -1
            door MAX = -1
            told 4 = 11
            walker 0 0 0 = 0
            walker 0 0 11 = 1
            walker 0 0 -1 = -1
            walker 0 0 12 = -1
            count 0 = 2
            put 0 11 = 0
            put 0 0 = 11
            put 0 -1 = -1
            put 0 12 = -1
            of 0 2 = 0
            """);
    }

    private static void xAndY() {
        C.edge("x is the number modulo 6", """
            walker 0 0 0 = 0
            night creak 5 x=0 = 0
            of 0 10..21 = 8 3 3 3 3 3 8 3 3 3 3 3
            night creak 5 x=1 = 1
            of 0 10..21 = 3 8 3 3 3 3 3 8 3 3 3 3
            night creak 5 x=2 = 2
            of 0 10..21 = 3 3 8 3 3 3 3 3 8 3 3 3
            night creak 5 x=3 = 3
            of 0 10..21 = 3 3 3 8 3 3 3 3 3 8 3 3
            night creak 5 x=4 = 4
            of 0 10..21 = 3 3 3 3 8 3 3 3 3 3 8 3
            night creak 5 x=5 = 5
            of 0 10..21 = 3 3 3 3 3 8 3 3 3 3 3 8
            new
            walker 0 0 0 = 0
            night creak 5 x>5 = 0
            of 0 10..21 = 3
            """);
        C.edge("y the number by 6 (cut)", """
            walker 0 0 0 = 0
            night creak 5 y=0 = 0
            of 0 10..21 = 8 8 8 8 8 8 3 3 3 3 3 3
            night creak 5 y=1 = 1
            of 0 10..21 = 3 3 3 3 3 3 8 8 8 8 8 8
            night creak 5 y>1 = 2
            of 0 10..21 = 3
            """);
    }

    private static void beside() {
        String sentence = "a BOARD is BESIDE another one, if their x are 1 apart and y alike, or y 1 apart and x alike";
        for (int board = 0; board < 12; board++) {
            for (int other = 0; other < 12; other++) {
                boolean is = false;
                for (int each : BESIDE[board]) {
                    is |= each == other;
                }
                C.edge(sentence, "walker 0 0 " + board + " = 0\n"
                    + "way " + other + " = 1\n"
                    + "goes 0 1 = " + (is ? other : board) + "\n"
                    + "step 0 " + other + " = " + (is ? 3 : -2) + "\n"
                    + "of 0 2 = " + (is ? other : board) + "\n"
                    + "told 0 = " + (is ? 1 : 0));
            }
        }
    }

    private static void atFirst() {
        C.edge("CREAK 3 at first", "creak 0..11 3 = 3");
        C.edge("TOY none at first", "told 5 = 0\n toy 0..11 false = 0");
        C.edge("THE DOOR: a BOARD (11 at first)", "told 4 = 11\n door 3 = 11");
        C.edge("MINUTE: 0 at first. STIRS: 0 at first. The child sleeps (at first)", "told 0..2 = 0\n lull = 0\n still 0 = 0");
        C.edge("promise 1: nobody, no NIGHT", """
            count 0..6 = 0
            of -1..4 0..2 = -1
            told 3 = 8
            undo = -3
            """);
        C.edge("promise 1: nobody can be asked", """
            goes 0..3 0 = -1
            out 0..3 = -1
            quiet 0..3 0..1 = -1
            set 0..3 0..1 = -1
            mend 0..3 = -1
            away 0..3 = -1
            from 0..3 = -1
            deeper 0..3 = -1
            odds 0..3 0..1 = NO
            mean 0..11 0..1 = NO
            who = 0
            act 0..3 0..2 5 = 0
            taken 0..3 0..6 = -11
            """);
    }

    private static void creaks() {
        C.edge("CREAK (0 .. 9)", """
            creak 5 0 = 3
            creak 5 9 = 0
            creak 5 -1 = -2
            creak 5 10 = -2
            creak 5 MAX = -2
            creak 5 MIN = -2
            creak 5 9 = 9
            """);
        C.edge("creak: NONE ahead of BAD", """
            creak 12 10 = -1
            creak -1 -1 = -1
            creak 0..11 3 = 3
            """);
        C.edge("creak: only that BOARD's", """
            creak 6 7 = 3
            creak 0..5 3 = 3
            creak 7..11 3 = 3
            creak 6 3 = 7
            """);
    }

    private static void toys() {
        C.edge("a TOY on it or none: each BOARD by itself", """
            toy 0 true = 0
            told 5 = 1
            toy 5 true = 0
            told 5 = 33
            toy 11 true = 0
            told 5 = 2081
            toy 5 true = 1
            told 5 = 2081
            toy 5 false = 1
            told 5 = 2049
            toy 5 false = 0
            told 5 = 2049
            toy 12 false = -1
            toy -1 false = -1
            told 5 = 2049
            new
            toy 0..11 true = 0
            told 5 = 4095
            toy 0..11 false = 1
            told 5 = 0
            """);
    }

    private static void walkers() {
        C.edge("WALKERS 0 .. 3, as they come", """
            walker 0 0 0 = 0
            count 0 = 1
            of 1 0 = -1
            walker 1 0 0 = 1
            walker 2 0 0 = 2
            walker 3 0 0 = 3
            walker 4 0 0 = -4
            count 0 = 4
            of 0..3 0 = 0 1 2 3
            of 4 0 = -1
            of -1 0 = -1
            of MAX 0 = -1
            of MIN 0 = -1
            """);
        C.edge("KINDS: 0 .. 6", """
            walker 0 0 0 = 0
            walker 6 0 0 = 1
            walker -1 0 0 = -1
            walker 7 0 0 = -1
            walker MAX 0 0 = -1
            walker MIN 0 0 = -1
            count 0 = 2
            of 0..1 0 = 0 6
            """);
        C.edge("a number v (0 .. 9)", """
            walker 0 0 0 = 0
            walker 0 9 0 = 1
            walker 0 -1 0 = -2
            walker 0 10 0 = -2
            walker 0 MAX 0 = -2
            count 0 = 2
            of 0..1 1 = 0 9
            """);
        C.edge("walker: NONE: kind, board; BAD: v; FULL: 4", """
            walker 7 10 0 = -1
            walker 0 10 12 = -1
            walker 7 0 12 = -1
            count 0 = 0
            walker 0..3 1 2 = 0 1 2 3
            walker 7 0 0 = -1
            walker 0 0 12 = -1
            walker 0 10 0 = -2
            walker 7 10 12 = -1
            walker 0 0 0 = -4
            count 0 = 4
            of 0..3 1 = 1
            """);
    }

    private static void asked() {
        C.edge("of: what 0 KIND, 1 v, 2 where it IS, 10 and b NOISE", """
            walker 1 4 7 = 0
            of 0 0..2 = 1 4 7
            of 0 3..9 = -1
            of 0 10..21 = 7
            of 0 22 = -1
            of 0 -1 = -1
            of 0 MAX = -1
            of 0 MIN = -1
            of 1 -1..22 = -1
            """);
    }

    private static void puts() {
        C.edge("put: where it was; NONE", """
            walker 0 0 5 = 0
            put 0 5 = 5
            put 0 0 = 5
            put 1 0 = -1
            put -1 0 = -1
            put 1 12 = -1
            put 0 12 = -1
            put 0 -2 = -1
            of 0 2 = 0
            told 0..2 = 0
            """);
        C.edge("put: onto a loud BOARD no child wakes", """
            walker 1 9 0 = 0
            toy 1 true = 0
            put 0 1 = 0
            told 0..2 = 0
            """);
    }

    private static void rows() {
        C.edge("its ROW (four numbers 0 .. 9; 0 at first)", """
            walker 6 0 0 = 0
            row 0 0..3 0 = 0
            row 0 0 9 = 0
            row 0 3 9 = 0
            row 0 -1 1 = -1
            row 0 4 1 = -1
            row 0 0 -1 = -2
            row 0 3 10 = -2
            row 0 0..3 0 = 9 0 0 9
            """);
        C.edge("row: NONE: walker, part; BAD: n (0 .. 9); STATE: another KIND", """
            walker 6 0 0 = 0
            walker 3 0 0 = 1
            row 2 0 1 = -1
            row 4 0 1 = -1
            row -1 0 1 = -1
            row 2 4 10 = -1
            row 0 4 10 = -1
            row 1 4 10 = -1
            row 1 4 1 = -1
            row 1 0 10 = -2
            row 1 0 -1 = -2
            row 1 0..3 1 = -3
            row 0 0..3 0 = 0
            """);
        C.edge("row: STATE for each KIND but TOLD", """
            walker 0 0 0 = 0
            walker 1 0 0 = 1
            walker 2 0 0 = 2
            walker 3 0 0 = 3
            row 0..3 0 0 = -3
            new
            walker 4 0 0 = 0
            walker 5 0 0 = 1
            walker 6 0 0 = 2
            row 0..2 0 0 = -3 -3 0
            """);
        C.edge("ROW at MINUTE modulo 4", """
            walker 6 0 0 = 0
            row 0 0 1 = 0
            row 0 1 2 = 0
            row 0 2 3 = 0
            row 0 3 4 = 0
            of 0 10 = 1
            still 3 = 3
            of 0 10 = 4
            still 1 = 4
            of 0 10 = 1
            still 30 = 34
            of 0 10 = 3
            still 1 = 35
            of 0 10 = 4
            """);
    }
}
