/** The bounds that the document names for promises 31 to 40: the image, acts, counts, tapes. */
public final class TapeEdgesTest {
    private static final Check C = new Check();

    public static void main(String[] args) {
        imageOfNobody();
        imageTwice();
        imageOfFewer();
        imageKeeps();
        actRefused();
        actsByNumber();
        actsWrap();
        trace();
        taken();
        count();
        tapeBounds();
        tapeAnew();
        itemPlaces();
        itemBits();
        shiftRefused();
        shiftUnlike();
        shiftPlaces();
        shiftOntoItself();
        C.end("TapeEdgesTest");
    }

    private static void imageOfNobody() {
        C.edge("undo: STATE: there is none", """
            undo = -3
            walker 0 0 0 = 0
            undo = -3
            count 0 = 1
            of 0 2 = 0
            """);
        C.edge("image: how many WALKERS there are: nobody", """
            image = 0
            walker 0..3 0 0 = 0 1 2 3
            creak 5 9 = 3
            undo = 0
            count 0 = 0
            of 0..3 0 = -1
            creak 5 3 = 3
            """);
        C.edge("image: how many WALKERS there are: all 4", """
            walker 3..6 0 0 = 0 1 2 3
            image = 4
            put 0..3 7 = 0
            undo = 4
            of 0..3 2 = 0
            of 0..3 0 = 3 4 5 6
            walker 0 0 0 = -4
            """);
    }

    private static void imageTwice() {
        C.edge("THE IMAGE is taken: the newest", """
            walker 6 0 0 = 0
            row 0 1 4 = 0
            image = 1
            row 0 1 5 = 4
            put 0 8 = 0
            door 4 = 11
            image = 1
            row 0 1 6 = 5
            put 0 9 = 8
            door 5 = 4
            undo = 1
            row 0 1 5 = 5
            of 0 2 = 8
            told 4 = 4
            """);
        C.edge("undo: all is as THE IMAGE, again and again", """
            walker 6 0 0 = 0
            image = 1
            3* creak 0 9 = 9
            undo = 1
            creak 0 8 = 3
            put 0 5 = 0
            still 7 = 7
            undo = 1
            creak 0 3 = 3
            of 0 2 = 0
            told 0 = 0
            """);
    }

    private static void imageOfFewer() {
        C.edge("undo: WALKERS that came behind THE IMAGE are gone, and come anew", """
            walker 1 1 1 = 0
            walker 6 2 2 = 1
            image = 2
            walker 3 3 3 = 2
            walker 4 4 4 = 3
            walker 5 5 5 = -4
            undo = 2
            of 2..3 0..2 = -1
            out 2 = -1
            who = 3
            walker 5 5 5 = 2
            of 2 0..2 = 5 5 5
            row 1 0..3 8 = 0
            undo = 2
            row 1 0..3 0 = 0
            walker 6 9 9 = 2
            row 2 0..3 0 = 0
            """);
        C.edge("undo: rows are as long as in THE IMAGE", """
            walker 0 0 0 = 0
            way 1 = 1
            see 1 0 false = 1
            book 8 = 1
            image = 1
            11* way -2 = 12
            5* see 0 0 true = 6
            11* book 9 = 12
            undo = 1
            count 2..4 = 1
            goes 0 0..3 = -5 1 1 0
            who = 1
            looked = -5
            way 2 = 2
            see 2 0 false = 2
            book 8 = 2
            goes 0 1 = 2
            who = 1
            looked = -5
            """);
    }

    private static void imageKeeps() {
        C.edge("THE IMAGE: MINUTE, STIRS, whether AWAKE, which NIGHT holds", """
            walker 0 0 0 = 0
            creak 0..1 5 = 3
            creak 6 9 = 3
            step 0 1 = 5
            step 0 0 = 5
            image = 1
            step 0 6 = 9
            night deep 9 m<12 = 0
            told 0..3 = 3 0 1 9
            undo = 1
            told 0..3 = 2 2 0 8
            count 1 = 1
            step 0 6 = 9
            night deep 7 m<12 = 1
            image = 1
            lull = 1
            still 30 = 33
            night deep 6 m<12 = 2
            undo = 1
            told 0..3 = 3 0 1 7
            step 0 0 = -3
            count 1 = 3
            """);
        C.edge("THE IMAGE: no TAPE, no TEXT, no TRACE, not how many NIGHTS", """
            walker 0 0 0 = 0
            image = 1
            text deep 1 m<9 = 10
            tape 0 0 2 = 1
            item 0 1 5 = 1
            act 0 1 7 = 7
            undo = 1
            count 5 = 10
            night = 0
            read 0 1 = 5
            trace 0..2 = 11 10 -1
            count 6 = 2
            undo = 1
            count 1 = 1
            told 3 = 8
            """);
    }

    private static void actRefused() {
        C.edge("act: 0, and no TRACE then: no such WALKER, act", """
            walker 0 5 0 = 0
            act 0 2 9 = 8
            count 6 = 3
            act 0 3 9 = 0
            count 6 = 0
            trace 0..2 = -1
            act 0 0 9 = 9
            act 0 -1 9 = 0
            count 6 = 0
            trace 0 = -1
            act 0 0 9 = 9
            act 1 0 9 = 0
            count 6 = 0
            trace 0 = -1
            act 0 0 9 = 9
            act -1 0 9 = 0
            count 6 = 0
            act 0 0 9 = 9
            act 1 3 9 = 0
            count 6 = 0
            act 0 0 9 = 9
            act MAX MIN 9 = 0
            count 6 = 0
            trace 0 = -1
            """);
    }

    private static void actsByNumber() {
        C.edge("ACTS: 0 treads, 1 goes, 2 tells; i its number", """
            walker 0 1 0 = 0
            walker 0 1 0 = 1
            walker 0 1 0 = 2
            walker 0 1 0 = 3
            act 0..3 0 10 = 10 11 12 13
            act 0..3 1 10 = 9 10 11 12
            act 0..3 2 10 = 18 20 22 24
            act 0..3 0 -3 = -3 -2 -1 0
            """);
        C.edge("BODIES of each KIND that has one", """
            walker 1 2 0 = 0
            walker 2 2 0 = 1
            walker 3 2 0 = 2
            act 0 0..2 9 = 9 1 2
            act 1 0..2 9 = 28 26 52
            act 2 0..2 9 = 11 9 19
            new
            walker 4 2 0 = 0
            walker 5 2 0 = 1
            walker 6 2 0 = 2
            act 0 0..2 9 = -9 -14 -28
            act 1 0..2 9 = 28 26 46
            act 2 0..2 9 = 9 11 25
            """);
    }

    private static void actsWrap() {
        C.edge("ACTS of a WALKER with x (wrapping)", """
            walker 0 1 0 = 0
            walker 0 0 0 = 1
            act 1 0 MAX = -2147483648
            act 0 1 MIN = 2147483647
            act 1 2 1073741823 = -2147483648
            act 1 2 -1073741826 = 2147483646
            new
            walker 2 0 0 = 0
            walker 5 0 0 = 1
            walker 4 0 0 = 2
            walker 6 9 0 = 3
            act 0 0 715827883 = -2147483647
            act 1 2 MIN = -4
            act 2 0 -2147483647 = 2147483645
            act 3 0 MAX = -2147483637
            new
            walker 4 0 0 = 0
            act 0 0 MIN = -2147483648
            act 0 1 MAX = -2147483642
            """);
    }

    private static void trace() {
        C.edge("THE TRACE: the numbers of the bodies that ran in the latest act(), as they began", """
            trace -1..20 = -1
            walker 6 0 0 = 0
            walker 0 0 0 = 1
            trace -1..20 = -1
            act 0 2 5
            trace 0..11 = 40 12 70 11 71 10 10 70 11 71 10 10
            trace 12..20 = -1
            trace -1 = -1
            trace MAX = -1
            trace MIN = -1
            count 6 = 12
            act 0 0 5 = 5
            trace 0..2 = 71 10 -1
            count 6 = 2
            act 1 0 5 = 6
            trace 0 = 10
            trace 1..12 = -1
            count 6 = 1
            """);
    }

    private static void taken() {
        C.edge("taken: BAD: k; NOTHING: no such WALKER; CAST", """
            walker 4 0 0 = 0
            taken 0 0..6 = 4 4 -12 -12 4 -12 -12
            taken 0 -1 = -2
            taken 0 7 = -2
            taken 0 MAX = -2
            taken 1 7 = -2
            taken -1 -1 = -2
            taken 1 0..6 = -11
            taken -1 0 = -11
            taken MIN 6 = -11
            walker 5 0 0 = 1
            walker 6 0 0 = 2
            walker 0 0 0 = 3
            taken 1 0..6 = 5 -12 5 -12 -12 5 -12
            taken 2 0..6 = 6 -12 -12 6 -12 -12 6
            taken 3 0..6 = 0 -12 -12 -12 -12 -12 -12
            taken 4 0 = -11
            new
            walker 1 0 0 = 0
            walker 2 0 0 = 1
            walker 3 0 0 = 2
            taken 0 0..6 = 1 1 -12 -12 -12 -12 -12
            taken 1 0..6 = 2 -12 2 -12 -12 -12 -12
            taken 2 0..6 = 3 -12 -12 3 -12 -12 -12
            """);
    }

    private static void count() {
        C.edge("count: how many; BAD", """
            count 0..6 = 0
            count -1 = -2
            count 7 = -2
            count MAX = -2
            count MIN = -2
            walker 0..3 0 0 = 0 1 2 3
            6* night deep 1 m<9 = 5
            12* way 0 = 12
            6* see 0 0 true = 6
            12* book 0 = 12
            100* feed 0 = 100
            act 3 2 0
            count 0..6 = 4 6 12 6 12 100 6
            """);
    }

    private static void tapeBounds() {
        C.edge("TAPES 0 .. 5 hold nothing (at first)", """
            read 0..5 0 = NO
            item 0..5 0 1 = -11
            tape 0 0 1 = 1
            tape 5 0 1 = 1
            tape -1 0 1 = -1
            tape 6 0 1 = -1
            tape MAX 0 1 = -1
            tape MIN 0 1 = -1
            read -1 0 = NO
            read 6 0 = NO
            item -1 0 1 = -1
            item 6 0 1 = -1
            item MIN -1 1 = -1
            read 0..5 0 = 0 NO NO NO NO 0
            """);
        C.edge("tape: a row of n (0 .. 60) of a sort, all 0; BAD: sort, n above 60; SIZE", """
            tape 0 0 0 = 1
            read 0 0 = NO
            item 0 0 1 = -13
            tape 0 4 60 = 1
            read 0 0..59 = 0
            read 0 60 = NO
            item 0 59 1 = 1
            tape 0 0 61 = -2
            tape 0 0 MAX = -2
            tape 0 0 -1 = -14
            tape 0 0 MIN = -14
            tape 0 5 1 = -2
            tape 0 -2 1 = -2
            tape 0 5 -1 = -2
            tape 0 -2 -1 = -2
            tape 0 5 61 = -2
            tape 0 MAX 1 = -2
            tape 6 5 61 = -1
            tape 6 0 -1 = -1
            tape -1 -1 0 = -1
            read 0 59 = 1
            item 0 59 2 = 1
            read 0 59 = 1
            """);
    }

    private static void tapeAnew() {
        C.edge("tape: becomes a row, all 0, whatever it held", """
            tape 0 3 60 = 1
            item 0 0..59 7 = 1
            tape 0 2 60 = 1
            read 0 0..59 = 0
            item 0 0 5 = 1
            tape 0 2 1 = 1
            read 0 0..1 = 0 NO
            tape 0 2 60 = 1
            read 0 0 = 0
            """);
        C.edge("tape: holds nothing (sort -1: n does not matter): 1", """
            tape 0 0 3 = 1
            tape 0 -1 0 = 1
            read 0 0 = NO
            item 0 0 1 = -11
            tape 0 0 3 = 1
            tape 0 -1 61 = 1
            item 0 0 1 = -11
            tape 0 -1 -1 = 1
            tape 0 -1 MIN = 1
            tape 0 -1 MAX = 1
            item 0 0 1 = -11
            tape 0 0 3 = 1
            read 0 0..2 = 0
            """);
    }

    private static void itemPlaces() {
        C.edge("item: NONE; NOTHING; PLACE", """
            tape 2 3 4 = 1
            item 2 0 11 = 1
            item 2 3 14 = 1
            item 2 -1 9 = -13
            item 2 4 9 = -13
            item 2 60 9 = -13
            item 2 MAX 9 = -13
            item 2 MIN 9 = -13
            item 1 -1 9 = -11
            item 1 0 9 = -11
            item 6 -1 9 = -1
            item -1 0 9 = -1
            read 2 0..4 = 11 0 0 14 NO
            read 2 -1 = NO
            read 2 60 = NO
            read 2 MAX = NO
            read 2 MIN = NO
            read 1 0 = NO
            read 6 0 = NO
            read -1 -1 = NO
            """);
    }

    private static void itemBits() {
        bits(0, "127 127 128 -128 255 -1 256 0 -128 -128 -129 127 -1 -1");
        bits(1, "32767 32767 32768 -32768 65535 -1 65536 0 -32768 -32768 -32769 32767 70000 4464");
        bits(2, "2147483647 2147483647 2147483648 -2147483648 4294967295 -1 4294967296 0 -2147483649 2147483647");
        bits(3, "9223372036854775807 9223372036854775807 -9223372036854775808 -9223372036854775808 4294967296 4294967296 -1 -1");
        bits(4, "0 0 1 1 2 1 -1 1 256 1 65536 1 4294967296 1 -9223372036854775808 1");
    }

    private static void bits(int sort, String pairs) {
        String[] each = pairs.split(" ");
        for (int i = 0; i < each.length; i += 2) {
            C.edge("item: v's lowest bits, as many as an item has; booleans: whether v is not 0",
                "tape 0 " + sort + " 2 = 1\n item 0 1 " + each[i] + " = 1\n read 0 0..1 = 0 " + each[i + 1]);
        }
    }

    private static void shiftRefused() {
        C.edge("shift: NONE: tapes; NOTHING; CAST: of unlike sorts; PLACE", """
            tape 0 2 3 = 1
            tape 1 3 3 = 1
            item 0 0..2 7 = 1
            item 1 0..2 8 = 1
            shift 6 0 0 0 1 = -1
            shift 0 0 6 0 1 = -1
            shift -1 0 0 0 1 = -1
            shift 0 0 -1 0 1 = -1
            shift MAX 0 MIN 0 1 = -1
            shift 6 0 5 0 1 = -1
            shift 5 0 6 0 1 = -1
            shift 6 -1 1 0 1 = -1
            shift 5 0 0 0 1 = -11
            shift 0 0 5 0 1 = -11
            shift 5 0 4 0 1 = -11
            shift 5 0 5 0 0 = -11
            shift 5 -1 0 0 1 = -11
            shift 0 0 5 0 -1 = -11
            shift 0 0 1 0 1 = -12
            shift 1 0 0 0 0 = -12
            shift 0 -1 1 0 1 = -12
            shift 0 0 1 0 4 = -12
            shift 0 -1 0 0 1 = -13
            read 0 0..2 = 7
            read 1 0..2 = 8
            """);
    }

    private static void shiftUnlike() {
        for (int sort = 0; sort < 5; sort++) {
            for (int other = 0; other < 5; other++) {
                boolean like = sort == other;
                C.edge("shift: CAST: of unlike sorts", "tape 0 " + sort + " 1 = 1\n tape 1 " + other + " 1 = 1\n item 0 0 1 = 1\n"
                    + "shift 0 0 1 0 1 = " + (like ? 1 : -12) + "\n read 1 0 = " + (like ? 1 : 0));
            }
        }
    }

    private static void shiftPlaces() {
        C.edge("shift: PLACE: n, i or j is below 0, or beyond either's end", """
            tape 0 2 5 = 1
            tape 1 2 3 = 1
            item 0 0..4 7 = 1
            shift 0 0 1 0 -1 = -13
            shift 0 -1 1 0 1 = -13
            shift 0 0 1 -1 1 = -13
            shift 0 -1 1 -1 0 = -13
            shift 0 0 1 0 4 = -13
            shift 0 0 1 1 3 = -13
            shift 0 3 1 0 3 = -13
            shift 0 5 1 0 1 = -13
            shift 0 0 1 3 1 = -13
            shift 0 6 1 0 0 = -13
            shift 0 0 1 4 0 = -13
            shift 0 0 0 0 6 = -13
            shift 0 MAX 1 0 1 = -13
            shift 0 1 1 MAX 1 = -13
            shift 0 1 1 1 MAX = -13
            shift 0 MAX 1 MAX MAX = -13
            shift 0 MIN 1 0 1 = -13
            shift 0 0 1 MIN 1 = -13
            shift 0 0 1 0 MIN = -13
            read 1 0..2 = 0
            shift 0 5 1 3 0 = 0
            shift 0 0 1 0 0 = 0
            read 1 0..2 = 0
            shift 0 4 1 2 1 = 1
            read 1 0..2 = 0 0 7
            shift 0 2 1 0 3 = 3
            read 1 0..2 = 7
            """);
        C.edge("shift: rows of none and of 60", """
            tape 0 0 0 = 1
            tape 1 0 0 = 1
            shift 0 0 1 0 0 = 0
            shift 0 0 0 0 0 = 0
            shift 0 0 1 0 1 = -13
            shift 0 1 1 0 0 = -13
            tape 0 3 60 = 1
            tape 1 3 60 = 1
            item 0 0..59 9 = 1
            shift 0 0 1 0 61 = -13
            shift 0 0 1 0 60 = 60
            read 1 0..59 = 9
            """);
    }

    private static void shiftOntoItself() {
        C.edge("shift: to the same, as they all were before", """
            tape 0 1 4 = 1
            item 0 0 1 = 1
            item 0 1 2 = 1
            item 0 2 3 = 1
            item 0 3 4 = 1
            shift 0 0 0 1 3 = 3
            read 0 0..3 = 1 1 2 3
            shift 0 1 0 0 3 = 3
            read 0 0..3 = 1 2 3 3
            shift 0 0 0 0 4 = 4
            read 0 0..3 = 1 2 3 3
            shift 0 3 0 0 1 = 1
            read 0 0..3 = 3 2 3 3
            """);
    }
}
