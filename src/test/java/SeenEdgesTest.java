/** The bounds that the document names for promises 24 to 30: seen, odds, means, the book, judging. */
public final class SeenEdgesTest {
    private static final Check C = new Check();

    public static void main(String[] args) {
        see();
        whoOfSeveral();
        whoAbove();
        whoThen();
        odds();
        oddsOfTwelve();
        mean();
        book();
        looked();
        lookedFromNow();
        judgeEnds();
        judgeRefused();
        judgeFirst();
        C.end("SeenEdgesTest");
    }

    private static void see() {
        C.edge("SEEN told by hand: a BOARD, n (0 .. 30) (6 at most)", """
            see 0 0 true = 1
            see 11 30 false = 2
            see 12 0 true = -1
            see -2 0 true = -1
            see MAX 0 true = -1
            see MIN 0 true = -1
            see 0 -1 true = -2
            see 0 31 false = -2
            see 0 MAX true = -2
            see 12 31 true = -1
            see -2 -1 true = -1
            count 3 = 2
            4* see 5 5 true = 6
            see 5 5 true = -4
            see 0 0 false = -4
            see 5 31 true = -2
            see 5 -1 true = -2
            see 12 5 true = -1
            see 12 31 true = -1
            count 3 = 6
            """);
        C.edge("see: board -1: none then, 0, whatever the others are", """
            see -1 0 true = 0
            6* see 5 5 true = 6
            see -1 31 true = 0
            count 3 = 0
            see 5 5 true = 1
            see -1 MIN false = 0
            count 3 = 0
            see 5 5 true = 1
            """);
    }

    private static void whoOfSeveral() {
        C.edge("WHO: those of the WALKERS, as bits, by whose NOISE all of SEEN is so", """
            who = 0
            walker 0 0 0 = 0
            who = 1
            walker 1 6 0 = 1
            who = 3
            walker 2 0 0 = 2
            who = 7
            walker 1 5 0 = 3
            who = 15
            see 3 0 true = 1
            who = 2
            see -1 0 true = 0
            see 3 0 false = 1
            who = 13
            creak 3 4 = 3
            who = 5
            toy 4 true = 0
            see 4 0 true = 2
            who = 1
            see 5 0 true = 3
            who = 0
            see -1 0 true = 0
            who = 15
            """);
        C.edge("WHO: nobody, by whatever is SEEN", """
            see 0 0 false = 1
            who = 0
            """);
        C.edge("WHO: the last of 6 that are SEEN", """
            walker 0 0 0 = 0
            6* see 0 0 false = 6
            who = 1
            see -1 0 false = 0
            5* see 0 0 false = 5
            see 0 0 true = 6
            who = 0
            """);
    }

    private static void whoAbove() {
        C.edge("SEEN: whether NOISE there is above DEPTH", """
            walker 0 0 0 = 0
            creak 3 8 = 3
            creak 4 9 = 3
            see 3 0 false = 1
            see 4 0 true = 2
            who = 1
            see -1 0 true = 0
            see 3 0 true = 1
            who = 0
            see -1 0 true = 0
            see 4 0 false = 1
            who = 0
            """);
    }

    private static void whoThen() {
        C.edge("SEEN: n MINUTES from now", """
            walker 0 0 0 = 0
            night deep 8 m<6|m>6 = 0
            see 0 30 true = 1
            who = 1
            see 0 29 false = 2
            see 0 0 false = 3
            who = 1
            still 1 = 1
            who = 0
            see -1 0 true = 0
            see 0 29 true = 1
            see 0 30 false = 2
            see 0 5 true = 3
            who = 1
            still 5 = 6
            see -1 0 true = 0
            see 0 0 true = 1
            who = 1
            see 0 1 true = 2
            who = 0
            """);
        C.edge("SEEN: MINUTES also beyond 9999", """
            333* still 30 = 9990
            walker 4 0 0 = 0
            night deep 8 m<4|m>4 = 0
            see 0 10 true = 1
            who = 1
            see 0 9 false = 2
            see 0 11 false = 3
            who = 1
            night deep 4 m<12 = 1
            see -1 0 true = 0
            see 0 11 true = 1
            see 0 10 false = 2
            see 0 30 false = 3
            see 0 29 true = 4
            who = 1
            """);
    }

    private static void odds() {
        C.edge("ODDS of one: NO", """
            odds 0 0 = NO
            walker 0 0 0 = 0
            odds 0 0..1 = 1
            odds 0 -1 = NO
            odds 0 2 = NO
            odds 1 0 = NO
            odds -1 1 = NO
            odds 1 2 = NO
            odds MAX MIN = NO
            """);
        C.edge("ODDS: STIRS as they are; STILL MINUTES take them", """
            walker 0 0 0 = 0
            creak 0..1 5 = 3
            way 1 = 1
            step 0 1 = 5
            step 0 0 = 5
            odds 0 0..1 = 11 12
            way 0 = 2
            odds 0 0..1 = 5 6
            step 0 1 = 5
            put 0 0 = 1
            told 2 = 1
            odds 0 0..1 = 1 1
            way 1 = 3
            odds 0 0..1 = 0 1
            """);
        C.edge("ODDS: behind 1 STILL MINUTE only there is 1 STIR left", """
            walker 0 0 0 = 0
            creak 0..1 5 = 3
            step 0 1 = 5
            step 0 0 = 5
            way 1 = 1
            way 0 = 2
            night deep 8 m=4|m=5 = 0
            odds 0 0..1 = 0 1
            night deep 8 m=5|m=6 = 1
            odds 0 0..1 = 1 12
            """);
        C.edge("ODDS: MINUTES also beyond 9999", """
            333* still 30 = 9990
            walker 0 0 0 = 0
            way 1 = 1
            night deep 8 m=4 = 0
            odds 0 0..1 = 1 12
            """);
    }

    private static void oddsOfTwelve() {
        int[][] lowest = {{0, 1}, {1, 12}, {1, 6}, {1, 4}, {1, 3}, {5, 12}, {1, 2}, {7, 12}, {2, 3}, {3, 4}, {5, 6}, {11, 12}, {1, 1}};
        for (int k = 0; k <= 12; k++) {
            C.edge("ODDS: 0 .. 11 STILL MINUTES ahead: a fraction in lowest terms", "walker 0 0 0 = 0\n way 1 = 1\n"
                + "night deep 8 m<" + k + " = 0\n odds 0 0..1 = " + lowest[k][0] + " " + lowest[k][1]);
        }
        for (int m = 0; m < 12; m++) {
            C.edge("ODDS: each of 0 .. 11 alike likely", "walker 0 0 0 = 0\n way 1 = 1\n"
                + "night deep 8 m=" + m + " = 0\n odds 0 0..1 = 1 12");
        }
    }

    private static void mean() {
        C.edge("MEAN of a BOARD: by how many there are: a fraction in lowest terms (NO: none)", """
            mean 0..11 0..1 = NO
            walker 0 0 0 = 0
            mean 0 0..1 = 3 1
            walker 1 1 0 = 1
            mean 0 0..1 = 7 2
            walker 1 2 0 = 2
            mean 0 0..1 = 4 1
            walker 2 0 0 = 3
            mean 0 0..1 = 13 4
            creak 11 5 = 3
            mean 11 0..1 = 5 1
            creak 11 4 = 5
            mean 11 0..1 = 17 4
            mean 12 0 = NO
            mean -1 0 = NO
            mean 0 2 = NO
            mean 0 -1 = NO
            mean 12 2 = NO
            mean MAX MIN = NO
            """);
        C.edge("MEAN: halves of four; nothing at all", """
            walker 0 0 0 = 0
            3* walker 2 0 0 = 3
            creak 0 0 = 3
            mean 0 0..1 = 0 1
            creak 0 2 = 0
            mean 0 0..1 = 5 4
            creak 0 4 = 2
            mean 0 0..1 = 5 2
            """);
        C.edge("MEAN: at MINUTE as it is now", """
            walker 4 0 0 = 0
            mean 0 0..1 = 3 1
            still 2 = 2
            mean 0 0..1 = 5 1
            still 1 = 3
            mean 0 0..1 = 3 1
            """);
    }

    private static void book() {
        C.edge("book: a row (0 .. 999) comes to the BOOK (12 at most)", """
            book 0 = 1
            book 999 = 2
            book -2 = -2
            book 1000 = -2
            book MAX = -2
            book MIN = -2
            count 4 = 2
            10* book 8 = 12
            book 8 = -4
            book 0 = -4
            book 1000 = -2
            book -2 = -2
            count 4 = 12
            book -1 = 0
            count 4 = 0
            book -1 = 0
            book 8 = 1
            looked = -5
            """);
    }

    private static void looked() {
        C.edge("LOOKED at: the first that is otherwise (-5: none)", """
            looked = -5
            book 8 = 1
            looked = -5
            book 9 = 2
            looked = 1
            book 7 = 3
            looked = 1
            book -1 = 0
            looked = -5
            book 7 = 1
            looked = 0
            book -1 = 0
            11* book 8 = 11
            looked = -5
            book 9 = 12
            looked = 11
            """);
        C.edge("LOOKED at: DEPTHS of 0 and of many", """
            night deep 0 m<12 = 0
            book 0 = 1
            looked = -5
            night deep 99 m<12;deep 99 m<12;deep 99 m<12;deep 99 m<12;deep 99 m<12;deep 99 m<12;deep 99 m<12 = 1
            looked = 0
            book -1 = 0
            book 693 = 1
            looked = -5
            """);
    }

    private static void lookedFromNow() {
        C.edge("a BOOK: DEPTHS at MINUTES 1, 2, 3 .. from now", """
            night deep 9 m=0;deep 8 m>0 = 0
            11* book 8 = 11
            looked = -5
            book 9 = 12
            looked = -5
            still 1 = 1
            looked = 10
            still 10 = 11
            looked = 0
            still 1 = 12
            looked = -5
            """);
        C.edge("a BOOK: MINUTES also beyond 9999", """
            333* still 30 = 9990
            night deep 9 m=4;deep 8 m<4|m>4 = 0
            9* book 8 = 9
            book 9 = 10
            book 8 = 11
            looked = -5
            book 9 = 12
            looked = 11
            """);
    }

    private static void judgeEnds() {
        C.edge("JUDGED: 100 and how many were looked at, if the row ends ahead of that", """
            judge 0 0 = 100
            tape 0 0 0 = 1
            judge 0 0 = 100
            tape 0 0 1 = 1
            item 0 0 3 = 1
            judge 0 0 = 101
            judge 0 1 = 100
            judge 0 2 = 100
            judge 0 MAX = 100
            judge 0 2147483636 = 100
            judge 0 -1 = 100
            judge 0 -12 = 100
            judge 0 MIN = 100
            tape 0 0 11 = 1
            item 0 0..10 3 = 1
            judge 0 0 = 111
            judge 0 10 = 101
            judge 0 11 = 100
            tape 0 0 12 = 1
            item 0 0..11 3 = 1
            judge 0 0 = -5
            judge 0 1 = 111
            tape 0 0 60 = 1
            item 0 48..59 3 = 1
            judge 0 48 = -5
            judge 0 49 = 111
            judge 0 47 = 0
            judge 0 59 = 101
            judge 0 60 = 100
            """);
        C.edge("JUDGED: 100, if the TAPE holds nothing", """
            tape 5 0 12 = 1
            item 5 0..11 3 = 1
            judge 5 0 = -5
            tape 5 -1 0 = 1
            judge 5 0 = 100
            judge 5 -1 = 100
            judge 4 0 = 100
            """);
    }

    private static void judgeRefused() {
        C.edge("judge: NONE: tape; CAST: it is no row of bytes", """
            tape 1 1 12 = 1
            tape 2 2 12 = 1
            tape 3 3 12 = 1
            tape 4 4 12 = 1
            judge 1..4 0 = -12
            judge 1..4 -1 = -12
            judge 1..4 12 = -12
            judge -1 0 = -1
            judge 6 0 = -1
            judge 6 -1 = -1
            judge MAX 0 = -1
            judge MIN 0 = -1
            tape 1 3 0 = 1
            judge 1 0 = -12
            """);
    }

    private static void judgeFirst() {
        C.edge("JUDGED: the first that is otherwise", """
            tape 0 0 12 = 1
            item 0 0..11 3 = 1
            creak 11 4 = 3
            judge 0 0 = 11
            creak 10 4 = 3
            judge 0 0 = 10
            creak 0 4 = 3
            judge 0 0 = 0
            creak 0 3 = 4
            creak 10..11 3 = 4
            item 0 5 259 = 1
            judge 0 0 = -5
            item 0 5 -253 = 1
            judge 0 0 = -5
            item 0 5 -3 = 1
            judge 0 0 = 5
            item 0 11 0 = 1
            judge 0 6 = 5
            item 0 11 3 = 1
            judge 0 6 = 106
            creak 2 9 = 3
            judge 0 9 = 2
            judge 0 10 = 102
            """);
        C.edge("JUDGED: a TOY is no part of CREAK", """
            tape 0 0 12 = 1
            item 0 0..11 3 = 1
            toy 0..11 true = 0
            judge 0 0 = -5
            """);
    }
}
