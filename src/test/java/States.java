/** States to try calls in, told by the calls that lead there, and the looks that show what one holds. */
final class States {
    /** Something of all, other than at first, and other than in THE IMAGE; but no act yet, and THE TEXT empty. */
    static final String QUIET = """
        walker 6 2 3
        walker 1 1 8
        row 0 1 7
        creak 2 5
        creak 9 8
        toy 4 true
        door 9
        night deep 9 m<6;deep 6 m>4
        way 2
        way -2
        see 2 3 false
        see 4 1 true
        book 9
        step 1 2
        image
        walker 5 4 0
        night creak 4 x=2;deep 7 m<12
        put 0 4
        row 0 2 3
        creak 5 1
        toy 7 true
        door 10
        step 1 1
        way 7
        see 1 1 false
        book 7
        book 3
        tape 0 0 13
        item 0 1 5
        item 0 12 9
        tape 1 2 3
        item 1 2 77
        tape 3 2 2
        item 3 0 66
        tape 4 4 2
        item 4 1 1
        """;
    /** As that, with THE TEXT and THE TRACE of somebody. */
    static final String RICH = QUIET + "text deep 21 m<12\n act 0 2 5\n";
    /** Nothing more of anything has room. */
    static final String FULL = """
        walker 6 2 3
        walker 1 1 8
        walker 5 4 0
        walker 4 4 6
        row 0 1 7
        creak 2 5
        toy 4 true
        door 9
        5* night deep 9 m<6
        image
        night deep 7 x=0
        text deep 21 m<12
        88* feed 32
        5* way 2
        7* way 4
        6* see 2 3 false
        12* book 7
        tape 0 0 60
        item 0 59 5
        tape 1 2 3
        item 1 2 77
        act 3 2 5
        step 1 7
        """;
    static final String AWAKE = QUIET + "text deep 21 m<12\n act 1 2 5\n creak 0 9\n toy 0 true\n step 1 0\n";
    /** MINUTE is 9991; short, as to come there takes many calls. */
    static final String LATE = """
        333* still 30
        walker 1 2 0
        step 0 1
        walker 6 2 3
        row 1 2 3
        creak 9 8
        toy 9 true
        way 2
        way 4
        see 1 1 true
        book 7
        tape 0 0 3
        item 0 2 5
        act 1 2 5
        """;

    /** What THE IMAGE keeps. */
    static final String HOUSE = """
        count 0
        count 2..4
        told 0..5
        of 0..3 0..2
        mean 0..11 0..1
        goes 0..3 0..3
        who
        looked
        row 0..3 0..3 0
        creak 0..11 0
        """;
    static final String WHOLE = HOUSE + """
        count 1
        count 5..6
        trace 0..12
        read 0..5 0..5
        read 0 12..13
        night
        told 3
        undo
        """ + HOUSE;
    static final String SHORT = """
        count 0..6
        told 0..5
        of 0..3 0..2
        of 0..1 10..12
        goes 0..1 0..3
        who
        looked
        trace 0..2
        read 0 0..3
        row 1 0..3 0
        creak 0..11 0
        undo
        """;

    private States() {
    }
}
