/** The bounds that the document names for promises 12 to 16: steps, still minutes, THE WAY. */
public final class StepEdgesTest {
    private static final Check C = new Check();

    public static void main(String[] args) {
        takes();
        aboveDepth();
        twiceAboveDepth();
        thirdStir();
        stirsBecomeNone();
        byMinuteThen();
        stepRefused();
        stillMinutes();
        stillRefused();
        late();
        lull();
        way();
        goesPlaces();
        goesStill();
        goesFromNow();
        goesLate();
        C.end("StepEdgesTest");
    }

    private static void takes() {
        C.edge("a step takes 1 MINUTE; SLOW, TOLD: 2", """
            walker 0..3 0 0 = 0 1 2 3
            step 0 1 = 3
            told 0 = 1
            step 1 1 = 3
            told 0 = 2
            step 2 1 = 1
            told 0 = 3
            step 3 1 = 0
            told 0 = 5
            new
            walker 4..6 0 0 = 0 1 2
            step 0 1 = 4
            told 0 = 1
            step 1 1 = 1
            told 0 = 2
            step 2 1 = 0
            told 0 = 4
            """);
    }

    private static void aboveDepth() {
        C.edge("if NOISE is above DEPTH, the child is AWAKE", """
            walker 0 0 0 = 0
            creak 1 8 = 3
            step 0 1 = 8
            told 0..2 = 1 1 0
            new
            walker 0 0 0 = 0
            creak 1 9 = 3
            step 0 1 = 9
            told 0..2 = 1 0 1
            of 0 2 = 1
            """);
        C.edge("if NOISE is above DEPTH, which is 0", """
            walker 0 0 0 = 0
            night deep 0 m<12 = 0
            creak 1 0 = 3
            creak 0 1 = 3
            step 0 1 = 0
            told 0..2 = 1 0 0
            step 0 0 = 1
            told 0..2 = 2 0 1
            """);
    }

    private static void twiceAboveDepth() {
        C.edge("else, if twice NOISE is above DEPTH, STIRS are 1 more", """
            walker 0 0 0 = 0
            creak 1 4 = 3
            creak 0 5 = 3
            step 0 1 = 4
            told 0..2 = 1 0 0
            step 0 0 = 5
            told 0..2 = 2 1 0
            """);
        C.edge("else, if twice NOISE is above DEPTH, which is odd", """
            walker 0 0 0 = 0
            night deep 7 m<12 = 0
            creak 0 4 = 3
            step 0 1 = 3
            told 0..2 = 1 0 0
            step 0 0 = 4
            told 0..2 = 2 1 0
            """);
    }

    private static void thirdStir() {
        C.edge("if they are 3 then, it is AWAKE, too; STIRS become 0", """
            walker 0 0 0 = 0
            creak 0..1 5 = 3
            step 0 1 = 5
            told 1..2 = 1 0
            step 0 0 = 5
            told 1..2 = 2 0
            step 0 1 = 5
            told 1..2 = 0 1
            told 0 = 3
            of 0 2 = 1
            """);
        C.edge("STIRS stay, when a STEP is not loud", """
            walker 0 0 0 = 0
            creak 0..1 5 = 3
            step 0 1 = 5
            step 0 0 = 5
            creak 1 4 = 5
            step 0 1 = 4
            told 1..2 = 2 0
            step 0 0 = 5
            told 1..2 = 0 1
            """);
    }

    private static void stirsBecomeNone() {
        C.edge("when it comes to be AWAKE (by one loud STEP), STIRS become 0", """
            walker 0 0 0 = 0
            creak 0..1 5 = 3
            creak 2 9 = 3
            step 0 1 = 5
            step 0 0 = 5
            told 1..2 = 2 0
            put 0 1 = 0
            step 0 2 = 9
            told 0..2 = 3 0 1
            """);
    }

    private static void byMinuteThen() {
        C.edge("NOISE, DEPTH by MINUTE as it is then", """
            walker 4 0 0 = 0
            step 0 1 = 4
            step 0 0 = 5
            step 0 1 = 3
            new
            walker 0 0 0 = 0
            night deep 3 m=1 = 0
            step 0 1 = 3
            told 0..2 = 1 1 0
            step 0 0 = 3
            told 0..2 = 2 0 1
            new
            walker 3 0 0 = 0
            creak 0..1 9 = 3
            night deep 6 m=2 = 0
            step 0 1 = 6
            told 0..2 = 2 1 0
            step 0 0 = 6
            told 0..2 = 4 0 1
            new
            walker 6 0 0 = 0
            row 0 1 9 = 0
            row 0 2 4 = 0
            step 0 1 = 4
            """);
    }

    private static void stepRefused() {
        C.edge("step: NONE; BAD: not BESIDE; STATE: the child is AWAKE", """
            walker 0 0 5 = 0
            step 0 12 = -1
            step 0 -1 = -1
            step 0 -2 = -1
            step 1 4 = -1
            step -1 4 = -1
            step 1 12 = -1
            step 0 5 = -2
            step 0 6 = -2
            step 0 10 = -2
            step 0 3 = -2
            told 0..2 = 0
            creak 4 9 = 3
            step 0 4 = 9
            told 0..2 = 1 0 1
            step 0 3 = -3
            step 0 2 = -2
            step 0 4 = -2
            step 0 12 = -1
            step 1 3 = -1
            told 0..2 = 1 0 1
            of 0 2 = 4
            """);
    }

    private static void stillMinutes() {
        C.edge("a STILL MINUTE: STIRS are 1 less (0 at least)", """
            walker 0 0 0 = 0
            creak 0..1 5 = 3
            step 0 1 = 5
            step 0 0 = 5
            told 0..1 = 2 2
            still 0 = 2
            told 0..1 = 2 2
            still 1 = 3
            told 0..1 = 3 1
            still 1 = 4
            told 0..1 = 4 0
            still 1 = 5
            told 0..1 = 5 0
            step 0 1 = 5
            step 0 0 = 5
            told 1 = 2
            still 2 = 9
            told 1 = 0
            step 0 1 = 5
            step 0 0 = 5
            still 30 = 41
            told 1 = 0
            """);
        C.edge("a STILL MINUTE does not send her to sleep", """
            walker 0 0 0 = 0
            creak 1 9 = 3
            step 0 1 = 9
            still 30 = 31
            told 0..2 = 31 0 1
            """);
    }

    private static void stillRefused() {
        C.edge("still: n STILL MINUTES (0 .. 30)", """
            still 0 = 0
            still 30 = 30
            still -1 = -2
            still 31 = -2
            still MAX = -2
            still MIN = -2
            told 0 = 30
            """);
    }

    private static void late() {
        C.edge("still: STATE: MINUTE is above 9960; step: MINUTE is above 9990", """
            332* still 30 = 9960
            walker 3 0 0 = 0
            walker 0 0 0 = 1
            still 0 = 9960
            still 31 = -2
            still 30 = 9990
            still 0 = -3
            still 30 = -3
            still 31 = -2
            still -1 = -2
            told 0 = 9990
            step 0 1 = 0
            told 0 = 9992
            step 1 1 = -3
            step 1 2 = -2
            step 1 12 = -1
            step 2 1 = -1
            told 0 = 9992
            of 1 2 = 0
            """);
        C.edge("still at 9961, step at 9991", """
            332* still 30 = 9960
            walker 0 0 0 = 0
            step 0 1 = 3
            told 0 = 9961
            still 0 = -3
            still 1 = -3
            told 0 = 9961
            new
            333* still 30 = 9990
            walker 0 0 0 = 0
            creak 1 9 = 3
            step 0 1 = 9
            told 0..2 = 9991 0 1
            step 0 0 = -3
            lull = 1
            step 0 0 = -3
            told 0..2 = 9991 0 0
            of 0 2 = 1
            """);
    }

    private static void lull() {
        C.edge("lull: the child sleeps again, STIRS are 0: whether it was AWAKE", """
            lull = 0
            walker 0 0 0 = 0
            creak 1 5 = 3
            step 0 1 = 5
            told 1 = 1
            lull = 0
            told 0..2 = 1 0 0
            creak 0 9 = 3
            step 0 0 = 9
            told 2 = 1
            lull = 1
            lull = 0
            told 0..2 = 2 0 0
            """);
    }

    private static void way() {
        C.edge("THE WAY: BOARDS (12 at most; -2: a STILL MINUTE)", """
            way -1 = 0
            way 0 = 1
            way 11 = 2
            way -2 = 3
            way -3 = -1
            way 12 = -1
            way MAX = -1
            way MIN = -1
            count 2 = 3
            9* way 5 = 12
            way 5 = -4
            way -2 = -4
            way 0 = -4
            way 12 = -1
            way -3 = -1
            count 2 = 12
            way -1 = 0
            count 2 = 0
            way 3 = 1
            """);
        C.edge("a WAY begun anew holds nothing of the one before", """
            walker 0 0 0 = 0
            way 1 = 1
            way 2 = 2
            way 3 = 3
            way -1 = 0
            goes 0 0..3 = -5 0 0 0
            way 6 = 1
            goes 0 0..3 = -5 6 1 0
            """);
    }

    private static void goesPlaces() {
        C.edge("GOES: the first place of it at which the child is AWAKE (-5: none)", """
            walker 0 0 0 = 0
            goes 0 0..3 = -5 0 0 0
            creak 1 9 = 3
            way 1 = 1
            way 0 = 2
            way 1 = 3
            goes 0 0..3 = 0 1 1 0
            creak 1 8 = 9
            goes 0 0..3 = -5 1 3 2
            creak 0 8 = 3
            goes 0 0..3 = 2 1 3 0
            goes 0 -1 = -1
            goes 0 4 = -1
            goes 1 0 = -1
            goes -1 0 = -1
            goes 1 4 = -1
            """);
        C.edge("GOES: the last place of 12", """
            walker 0 0 0 = 0
            11* way -2 = 11
            way 6 = 12
            goes 0 0..3 = -5 6 12 0
            creak 6 9 = 3
            goes 0 0..3 = 11 6 12 0
            """);
        C.edge("GOES: behind that place it goes no further", """
            walker 0 0 0 = 0
            creak 6 9 = 3
            way 6 = 1
            way 7 = 2
            4* way -2 = 6
            goes 0 0..3 = 0 6 1 0
            """);
    }

    private static void goesStill() {
        C.edge("GOES: a STEP, if that BOARD is BESIDE the one where it is by then, else a STILL MINUTE", """
            walker 3 0 0 = 0
            way 0 = 1
            goes 0 1..2 = 0 1
            way 2 = 2
            goes 0 1..2 = 0 2
            way 1 = 3
            goes 0 1..2 = 1 4
            way 2 = 4
            goes 0 1..2 = 2 6
            way 2 = 5
            goes 0 1..2 = 2 7
            way -2 = 6
            goes 0 1..2 = 2 8
            way 5 = 7
            goes 0 1..2 = 2 9
            way 6 = 8
            goes 0 1..2 = 2 10
            way 8 = 9
            goes 0 1..2 = 8 12
            """);
        C.edge("GOES: a STILL MINUTE takes a STIR, though 0 at least", """
            walker 0 0 0 = 0
            creak 0..1 5 = 3
            way 1 = 1
            way 0 = 2
            goes 0 3 = 2
            way -2 = 3
            goes 0 3 = 1
            way 0 = 4
            goes 0 3 = 0
            way 5 = 5
            goes 0 3 = 0
            way 1 = 6
            way 0 = 7
            goes 0 0..3 = -5 0 7 2
            """);
    }

    private static void goesFromNow() {
        C.edge("asked, goes on from how all is (the child sleeping, STIRS as they are)", """
            walker 0 0 0 = 0
            creak 0..1 5 = 3
            way 1 = 1
            way 0 = 2
            step 0 1 = 5
            put 0 0 = 1
            told 0..2 = 1 1 0
            goes 0 0..3 = 1 0 3 0
            step 0 1 = 5
            put 0 0 = 1
            told 0..2 = 2 2 0
            goes 0 0..3 = 0 1 3 0
            step 0 1 = 5
            put 0 0 = 1
            told 0..2 = 3 0 1
            goes 0 0..3 = -5 0 5 2
            told 0..2 = 3 0 1
            of 0 2 = 0
            """);
    }

    private static void goesLate() {
        C.edge("asked, MINUTES also beyond 9999", """
            333* still 30 = 9990
            walker 0 0 0 = 0
            walker 3 0 0 = 1
            9* way -2 = 9
            goes 0 2 = 9999
            way 1 = 10
            goes 0..1 2 = 10000 10001
            night deep 8 m<12 = 0
            goes 0 0..3 = -5 1 10000 0
            night deep 8 m<4|m>4 = 1
            goes 0 0..3 = 9 1 10000 0
            night deep 8 m=4 = 2
            goes 0 0..3 = -5 1 10000 0
            way 0 = 11
            way 1 = 12
            goes 1 1..2 = 1 10005
            goes 0 0..3 = 10 0 10001 0
            """);
    }
}
