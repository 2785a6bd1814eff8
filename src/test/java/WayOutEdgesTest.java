/** The bounds that the document names for promises 17 to 23: the soonest, the quietest way out, and what would help. */
public final class WayOutEdgesTest {
    private static final Check C = new Check();

    public static void main(String[] args) {
        outAtTheDoor();
        outInThirty();
        outByStirs();
        outWakes();
        quietSteps();
        quietOnce();
        quietFewest();
        quietAsItGoes();
        set();
        mend();
        mendWhich();
        away();
        awayWhich();
        from();
        deeper();
        late();
        C.end("WayOutEdgesTest");
    }

    private static void outAtTheDoor() {
        C.edge("OUT: 0 MINUTES at THE DOOR", """
            walker 0 0 11 = 0
            out 0 = 0
            toy 11 true = 0
            toy 10 true = 0
            toy 5 true = 0
            out 0 = 0
            put 0 10 = 11
            out 0 = -5
            door 10 = 11
            out 0 = 0
            out -1 = -1
            out 1 = -1
            out MAX = -1
            """);
    }

    private static void outInThirty() {
        C.edge("OUT: the fewest MINUTES (0 .. 30); -5: none", """
            walker 0 0 0 = 0
            door 3 = 11
            night deep 8 m=6 = 0
            out 0 = 30
            still 11 = 11
            out 0 = -5
            still 1 = 12
            out 0 = 30
            still 5 = 17
            out 0 = 25
            still 1 = 18
            out 0 = -5
            put 0 1 = 0
            out 0 = 24
            put 0 3 = 1
            out 0 = 0
            """);
        C.edge("OUT of one whose STEPS take 2 MINUTES (0 .. 30)", """
            walker 3 0 0 = 0
            creak 0..11 4 = 3
            door 3 = 11
            night deep 8 m=6 = 0
            out 0 = 30
            still 11 = 11
            out 0 = -5
            still 1 = 12
            out 0 = 30
            still 4 = 16
            out 0 = 26
            still 1 = 17
            out 0 = -5
            new
            walker 6 0 0 = 0
            out 0 = 12
            put 0 10 = 0
            out 0 = 2
            """);
    }

    private static void outByStirs() {
        C.edge("OUT: STIRS as they are; 3 of them wake", """
            walker 0 0 0 = 0
            creak 0..11 5 = 3
            door 2 = 11
            out 0 = 2
            door 3 = 2
            out 0 = 4
            step 0 1 = 5
            put 0 0 = 1
            told 1 = 1
            out 0 = 5
            door 2 = 3
            out 0 = 3
            door 1 = 2
            out 0 = 1
            step 0 1 = 5
            put 0 0 = 1
            told 1 = 2
            out 0 = 2
            door 0 = 1
            out 0 = 0
            """);
        C.edge("OUT: a STILL MINUTE takes a STIR, 0 at least", """
            walker 0 0 0 = 0
            creak 0..2 5 = 3
            step 0 1 = 5
            step 0 0 = 5
            door 2 = 11
            night deep 8 m=5|m=6 = 0
            told 0..1 = 2 2
            out 0 = 4
            night deep 8 m=4|m=5 = 1
            out 0 = 14
            """);
        C.edge("OUT: a STEP that makes no STIR takes none away, either", """
            walker 0 0 0 = 0
            creak 0..11 5 = 3
            creak 1..2 4 = 5
            step 0 6 = 5
            step 0 0 = 5
            told 1 = 2
            door 2 = 11
            out 0 = 2
            door 3 = 2
            out 0 = 4
            """);
    }

    private static void outWakes() {
        C.edge("OUT: the child sleeping all the time, at THE DOOR, too", """
            walker 0 0 10 = 0
            creak 11 8 = 3
            out 0 = 1
            creak 11 9 = 8
            out 0 = -5
            """);
        C.edge("OUT: asked, the child sleeping", """
            walker 0 0 0 = 0
            creak 6 9 = 3
            step 0 6 = 9
            told 2 = 1
            door 7 = 11
            out 0 = 1
            quiet 0 0..1 = 3 1
            set 0 0..1 = 0 1
            mend 0 = -5
            away 0 = -5
            from 0 = 4095
            deeper 0 = 0
            creak 7 9 = 3
            mend 0 = 7
            creak 7 3 = 9
            toy 7 true = 0
            away 0 = 7
            from 0 = 128
            deeper 0 = 4
            told 0..2 = 1 0 1
            """);
    }

    private static void quietSteps() {
        C.edge("QUIET: of all ways of 8 STEPS or fewer", """
            walker 0 0 0 = 0
            door 2 = 11
            night creak 90 m<8&x=2&y=0 = 0
            quiet 0 0..1 = 24 8
            night creak 90 m<9&x=2&y=0 = 1
            quiet 0 0..1 = 96 2
            night creak 90 m<7&x=2&y=0 = 2
            quiet 0 0..1 = 24 8
            night creak 90 m<6&x=2&y=0 = 3
            quiet 0 0..1 = 18 6
            new
            walker 0 0 0 = 0
            door 1 = 11
            night creak 90 m<7&x=1&y=0 = 0
            quiet 0 0..1 = 21 7
            night creak 90 m<8&x=1&y=0 = 1
            quiet 0 0..1 = 93 1
            """);
        C.edge("QUIET: at THE DOOR, by 0 STEPS", """
            walker 1 9 11 = 0
            quiet 0 0..1 = 0
            toy 11 true = 0
            quiet 0 0..1 = 0
            """);
        C.edge("quiet: NONE", """
            walker 0 0 0 = 0
            quiet 0 -1 = -1
            quiet 0 2 = -1
            quiet 1 0 = -1
            quiet -1 1 = -1
            quiet 1 2 = -1
            quiet MIN MAX = -1
            """);
    }

    private static void quietOnce() {
        C.edge("QUIET: on which it IS on each BOARD once at most", """
            walker 0 0 0 = 0
            door 1 = 11
            toy 7 true = 0
            night creak 90 m<3&x=1&y=0 = 0
            quiet 0 0..1 = 18 3
            new
            walker 0 0 5 = 0
            door 4 = 11
            toy 10 true = 0
            night creak 90 m<3&x=4&y=0 = 0
            quiet 0 0..1 = 18 3
            """);
        C.edge("QUIET: by each BOARD, the first and the last, too", """
            walker 0 0 1 = 0
            door 6 = 11
            toy 7 true = 0
            quiet 0 0..1 = 6 2
            put 0 10 = 1
            door 5 = 6
            toy 4 true = 0
            quiet 0 0..1 = 6 2
            """);
    }

    private static void quietFewest() {
        C.edge("QUIET: of several the fewest STEPS", """
            walker 0 0 0 = 0
            door 2 = 11
            creak 1 9 = 3
            quiet 0 0..1 = 12 2
            toy 1 true = 0
            quiet 0 0..1 = 12 4
            creak 0..11 0
            toy 1 false = 1
            quiet 0 0..1 = 0 2
            door 11 = 2
            quiet 0 0..1 = 0 6
            """);
        C.edge("QUIET: whether the child wakes does not matter", """
            walker 1 9 0 = 0
            creak 0..11 9 = 3
            toy 0..11 true = 0
            door 1 = 11
            quiet 0 0..1 = 27 1
            """);
    }

    private static void quietAsItGoes() {
        C.edge("QUIET: NOISE, together (MINUTE as it goes)", """
            walker 4 1 0 = 0
            door 3 = 11
            quiet 0 0..1 = 15 3
            still 2 = 2
            door 2 = 3
            quiet 0 0..1 = 9 2
            still 1 = 3
            quiet 0 0..1 = 11 2
            new
            walker 6 0 0 = 0
            row 0 0 1 = 0
            row 0 1 9 = 0
            row 0 2 5 = 0
            row 0 3 9 = 0
            door 2 = 11
            quiet 0 0..1 = 6 2
            """);
    }

    private static void set() {
        C.edge("SET: the n (0 .. 20) of STILL MINUTES behind which OUT is fewest (of several the least)", """
            walker 0 0 0 = 0
            set 0 0..1 = 0 6
            door 1 = 11
            night deep 8 m=1 = 0
            set 0 0..1 = 0 1
            night deep 8 m=0 = 1
            set 0 0..1 = 11 1
            night deep 8 m=2|m=5 = 2
            set 0 0..1 = 1 1
            door 0 = 1
            set 0 0..1 = 0
            """);
        // All is as loud and deep again after 12 MINUTES, and STIRS are over after 2: no n above 13 is ever the first.
        C.edge("SET: STIRS go by in the STILL MINUTES ahead", """
            walker 0 0 0 = 0
            creak 0..2 5 = 3
            step 0 1 = 5
            step 0 0 = 5
            door 2 = 11
            night deep 8 m=4|m=5 = 0
            told 0..1 = 2 2
            set 0 0..1 = 13 2
            told 0..1 = 2 2
            """);
        C.edge("SET: -5: there is none by any n", """
            walker 0 0 0 = 0
            door 1 = 11
            creak 1 9 = 3
            set 0 0..1 = -5
            set 0 -1 = -1
            set 0 2 = -1
            set 1 0 = -1
            set -1 1 = -1
            set 1 2 = -1
            """);
    }

    private static void mend() {
        C.edge("MEND: if that is fewer than now", """
            walker 0 0 0 = 0
            door 2 = 11
            mend 0 = -5
            creak 1 8 = 3
            mend 0 = -5
            creak 1 9 = 8
            out 0 = 4
            mend 0 = 1
            creak 0..11 0
            mend 0 = -5
            creak 0..11 9 = 0
            door 0 = 2
            mend 0 = -5
            mend 1 = -1
            mend -1 = -1
            """);
        C.edge("MEND: or there is none now", """
            walker 0 0 0 = 0
            door 1 = 11
            creak 1 9 = 3
            out 0 = -5
            mend 0 = 1
            toy 1 true = 0
            mend 0 = -5
            """);
        C.edge("MEND: a CREAK of 1 becomes 0", """
            walker 1 8 0 = 0
            creak 0..11 0 = 3
            creak 1 1 = 0
            door 1 = 11
            out 0 = -5
            mend 0 = 1
            """);
        C.edge("MEND: -5: no BOARD, as two would be to be mended", """
            walker 0 0 0 = 0
            creak 1 9 = 3
            creak 6 9 = 3
            creak 2 9 = 3
            creak 7 9 = 3
            mend 0 = -5
            """);
    }

    private static void mendWhich() {
        C.edge("MEND: the BOARD by which OUT is fewest (of several the first)", """
            walker 0 0 6 = 0
            door 8 = 11
            creak 1 9 = 3
            creak 7 9 = 3
            out 0 = -5
            mend 0 = 7
            put 0 1 = 6
            door 6 = 8
            creak 0 9 = 3
            out 0 = -5
            mend 0 = 0
            new
            walker 0 0 10 = 0
            creak 11 9 = 3
            mend 0 = 11
            """);
        C.edge("MEND: not the BOARD where it IS", """
            walker 0 0 0 = 0
            creak 0 9 = 3
            creak 1 9 = 3
            door 1 = 11
            mend 0 = 1
            """);
    }

    private static void away() {
        C.edge("AWAY: likewise the BOARD with a TOY by which, were there none on it, OUT is fewest", """
            walker 0 0 0 = 0
            door 2 = 11
            away 0 = -5
            creak 1 9 = 3
            away 0 = -5
            creak 1 3 = 9
            toy 1 true = 0
            out 0 = 4
            away 0 = 1
            toy 6 true = 0
            out 0 = -5
            away 0 = 1
            creak 1 9 = 3
            away 0 = 6
            creak 6 9 = 3
            away 0 = -5
            away 1 = -1
            away -1 = -1
            """);
        C.edge("AWAY: if that is fewer than now", """
            walker 0 0 0 = 0
            door 2 = 11
            toy 0 true = 0
            toy 3..11 true = 0
            out 0 = 2
            away 0 = -5
            door 0 = 2
            toy 1 true = 0
            away 0 = -5
            """);
    }

    private static void awayWhich() {
        C.edge("AWAY: fewest (of several the first)", """
            walker 0 0 6 = 0
            door 8 = 11
            toy 1 true = 0
            toy 7 true = 0
            out 0 = -5
            away 0 = 7
            put 0 1 = 6
            door 6 = 8
            toy 0 true = 0
            away 0 = 0
            new
            walker 0 0 10 = 0
            toy 11 true = 0
            away 0 = 11
            """);
    }

    private static void from() {
        C.edge("FROM: those BOARDS, as bits, from which, were it there now, there is an OUT", """
            walker 0 0 5 = 0
            from 0 = 4095
            creak 0..11 9 = 3
            from 0 = 2048
            door 0 = 11
            from 0 = 1
            from 1 = -1
            from -1 = -1
            """);
        C.edge("FROM, SET: NOISE is not above DEPTH, when it is as much", """
            walker 0 0 0 = 0
            creak 0..11 8 = 3
            door 1 = 11
            from 0 = 4095
            set 0 0..1 = 0 1
            creak 1 9 = 8
            from 0 = 2
            set 0 0..1 = -5
            """);
        C.edge("FROM: an OUT in 30 MINUTES", """
            walker 0 0 5 = 0
            door 3 = 11
            night deep 8 m=6 = 0
            from 0 = 4031
            still 11 = 11
            from 0 = 1854
            """);
        C.edge("FROM: STIRS as they are", """
            walker 0 0 0 = 0
            creak 0..11 5 = 3
            step 0 1 = 5
            step 0 0 = 5
            night deep 8 m=3 = 0
            door 1 = 11
            from 0 = 463
            """);
    }

    private static void deeper() {
        C.edge("DEEPER: the least n (0 .. 30) by which there is an OUT (-5: by none)", """
            walker 0 0 0 = 0
            deeper 0 = 0
            door 1 = 11
            creak 1 9 = 3
            deeper 0 = 1
            toy 1 true = 0
            deeper 0 = 10
            night deep 0 m<12;creak 11 t=1 = 0
            deeper 0 = 29
            night deep 0 m<12;creak 12 t=1 = 1
            deeper 0 = 30
            night deep 0 m<12;creak 13 t=1 = 2
            deeper 0 = -5
            night deep 1 m<12;creak 13 t=1 = 3
            deeper 0 = 30
            door 0 = 1
            deeper 0 = 0
            deeper 1 = -1
            deeper -1 = -1
            """);
        C.edge("DEEPER: less than would do for the loudest MINUTE", """
            walker 0 0 0 = 0
            door 1 = 11
            night creak 20 m<12;hush 10 m=3;deep 1 m<12 = 0
            deeper 0 = 12
            """);
        // Only at m 4, 5, 6 can it be dared: twice within 30 MINUTES, and three STIRS in a row would wake.
        C.edge("DEEPER: DEPTH is more for STIRS, too", """
            walker 0 0 0 = 0
            creak 0..11 5 = 3
            door 5 = 11
            night deep 5 m<12;creak 40 m<4|m>6 = 0
            still 7 = 7
            deeper 0 = 5
            door 4 = 5
            deeper 0 = 0
            """);
    }

    private static void late() {
        C.edge("OUT, QUIET, SET, FROM, DEEPER, MINUTES also beyond 9999", """
            333* still 30 = 9990
            walker 0 0 0 = 0
            walker 6 0 0 = 1
            row 1 0 1 = 0
            row 1 2 5 = 0
            row 1 1 9 = 0
            row 1 3 9 = 0
            quiet 1 0..1 = 18 6
            out 1 = 14
            door 1 = 11
            night deep 8 m=4 = 0
            out 0 = 10
            set 0 0..1 = 9 1
            mend 0 = 1
            from 0 = 463
            night deep 3 m=4 = 1
            deeper 0 = 0
            night deep 2 m=4 = 2
            deeper 0 = 1
            told 0 = 9990
            """);
    }
}
