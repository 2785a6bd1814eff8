import java.util.List;

/** "What is answered so changes nothing; what is asked changes nothing": each refused call, each call that asks. */
public final class UnchangedTest {
    private static final Check C = new Check();

    public static void main(String[] args) {
        refusedBoards();
        refusedSteps();
        refusedTapes();
        refusedShifts();
        refusedFull();
        refusedAwake();
        refusedLate();
        refusedAtFirst();
        refusedButFor();
        asked();
        imageAndUndo();
        looksSee();
        C.end("UnchangedTest");
    }

    /** Each line is a call with the answer that is due, made in a state that a look has to show as it was. */
    private static void same(String state, String look, String lines) {
        Calls untouched = new Calls();
        untouched.answersOf(state);
        List<Long> due = untouched.answersOf(look);
        for (String each : lines.split("\n")) {
            Calls calls = new Calls();
            calls.answersOf(state);
            calls.line(C, "refused", each.strip());
            C.due("nothing has changed behind " + each.strip(), calls.answersOf(look).equals(due) ? 1 : 0, 1);
            C.due("512 calls at most behind " + each.strip(), calls.made() <= Calls.MOST ? 1 : 0, 1);
        }
    }

    private static void refusedBoards() {
        same(States.RICH, States.WHOLE, """
            creak -1 5 = -1
            creak 12 5 = -1
            creak 2 -1 = -2
            creak 2 10 = -2
            creak 12 10 = -1
            toy -1 true = -1
            toy 12 true = -1
            toy 12 false = -1
            toy 36 false = -1
            door -1 = -1
            door 12 = -1
            walker -1 0 0 = -1
            walker 7 0 0 = -1
            walker 0 0 -1 = -1
            walker 0 0 12 = -1
            walker 0 -1 0 = -2
            walker 0 10 0 = -2
            walker 7 10 0 = -1
            walker 0 10 12 = -1
            put 3 0 = -1
            put -1 0 = -1
            put 0 -1 = -1
            put 0 12 = -1
            row 3 0 1 = -1
            row -1 0 1 = -1
            row 0 -1 1 = -1
            row 0 4 1 = -1
            row 0 1 -1 = -2
            row 0 1 10 = -2
            row 1 0 1 = -3
            row 1 4 1 = -1
            row 1 0 10 = -2
            feed -1 = -2
            feed 128 = -2""");
    }

    private static void refusedSteps() {
        same(States.RICH, States.WHOLE, """
            step 3 1 = -1
            step -1 1 = -1
            step 0 12 = -1
            step 0 -1 = -1
            step 1 1 = -2
            step 1 8 = -2
            step 1 6 = -2
            still -1 = -2
            still 31 = -2
            way -3 = -1
            way 12 = -1
            see 12 0 true = -1
            see -2 0 true = -1
            see 0 -1 true = -2
            see 0 31 true = -2
            see 12 31 true = -1
            book -2 = -2
            book 1000 = -2""");
    }

    private static void refusedTapes() {
        same(States.RICH, States.WHOLE, """
            tape -1 0 1 = -1
            tape 6 0 1 = -1
            tape 6 5 61 = -1
            tape 6 0 -1 = -1
            tape 0 5 1 = -2
            tape 0 -2 1 = -2
            tape 0 0 61 = -2
            tape 0 0 -1 = -14
            tape 0 5 -1 = -2
            tape 2 5 1 = -2
            tape 2 0 61 = -2
            tape 2 0 -1 = -14
            item -1 0 1 = -1
            item 6 0 1 = -1
            item 2 0 1 = -11
            item 2 -1 1 = -11
            item 0 -1 1 = -13
            item 0 13 1 = -13
            item 1 3 1 = -13""");
    }

    private static void refusedShifts() {
        same(States.RICH, States.WHOLE, """
            shift 6 0 0 0 1 = -1
            shift 0 0 6 0 1 = -1
            shift -1 0 2 0 1 = -1
            shift 2 0 0 0 1 = -11
            shift 0 0 2 0 1 = -11
            shift 0 0 1 0 1 = -12
            shift 0 -1 1 0 1 = -12
            shift 1 0 3 0 -1 = -13
            shift 1 -1 3 0 1 = -13
            shift 1 0 3 -1 1 = -13
            shift 1 0 3 0 3 = -13
            shift 1 1 3 0 3 = -13
            shift 1 0 3 1 2 = -13
            shift 3 0 1 2 2 = -13
            shift 3 1 1 0 2 = -13""");
    }

    private static void refusedFull() {
        same(States.FULL, States.WHOLE, """
            walker 0 0 0 = -4
            walker 7 0 0 = -1
            walker 0 0 12 = -1
            walker 0 10 0 = -2
            feed 0 = -4
            feed 128 = -2
            feed -1 = -2
            night = -4
            way 0 = -4
            way -2 = -4
            way 12 = -1
            see 0 0 true = -4
            see 0 31 true = -2
            see 12 0 true = -1
            book 0 = -4
            book 1000 = -2""");
    }

    private static void refusedAwake() {
        same(States.AWAKE, States.WHOLE, """
            step 1 1 = -3
            step 1 2 = -2
            step 1 0 = -2
            step 1 12 = -1
            step 3 1 = -1
            still 31 = -2
            still -1 = -2""");
    }

    private static void refusedLate() {
        same(States.LATE, States.SHORT, """
            step 0 0 = -3
            step 1 9 = -3
            step 0 3 = -2
            step 0 12 = -1
            step 2 0 = -1
            still 0 = -3
            still 1 = -3
            still 30 = -3
            still 31 = -2
            still -1 = -2
            undo = -3""");
    }

    private static void refusedAtFirst() {
        same("", States.WHOLE, """
            undo = -3
            creak 12 0 = -1
            walker 0 10 0 = -2
            put 0 0 = -1
            row 0 0 1 = -1
            row 0 0 10 = -1
            step 0 1 = -1
            item 0 0 1 = -11
            shift 0 0 0 0 0 = -11
            tape 0 0 -1 = -14
            night = -10
            way -1 = 0
            see -1 0 true = 0
            book -1 = 0
            lull = 0
            still 0 = 0
            act 0 0 1 = 0""");
    }

    /** What is refused, but changes what the document says. */
    private static void refusedButFor() {
        same(States.QUIET, States.WHOLE, """
            night = -10
            night ? = -10
            night deep 9 = -16
            night deep 9 m<12;hush 3 x=4& = -33
            act 3 0 7 = 0
            act 0 3 7 = 0
            act -1 -1 7 = 0
            still 0 = 2""");
    }

    private static void asked() {
        String questions = """
            of -1..4 -1..3
            of 0..3 9..22
            told -1..6
            goes -1..4 -1..4
            out -1..4
            quiet -1..4 -1..2
            set -1..4 -1..2
            mend -1..4
            away -1..4
            from -1..4
            deeper -1..4
            who
            odds -1..4 -1..2
            mean -1..12 -1..2
            looked
            judge -1..6 -1..2
            trace -1..20
            taken -1..4 -1..7
            count -1..7
            read -1..6 -1..3""";
        same(States.RICH, States.WHOLE, questions);
        same(States.FULL, States.WHOLE, questions.replace("mean -1..12 -1..2", "mean -1..3 -1..1").replace("of 0..3 9..22", "of 0..2 9..15"));
        same(States.AWAKE, States.WHOLE, questions);
        same(States.LATE, States.SHORT, questions);
        same("", States.WHOLE, questions);
    }

    private static void imageAndUndo() {
        same(States.RICH, States.HOUSE, "image = 3");
        same(States.FULL, States.HOUSE, "image = 4");
        same(States.AWAKE, States.HOUSE, "image = 3");
        String changes = """
            creak 0..11 7
            toy 0..11 false
            toy 1 true
            door 3
            put 0..3 9
            row 0..3 0..3 1
            lull
            still 30
            way -1
            way 3
            see -1 0 true
            see 3 3 true
            book -1
            book 3
            walker 0 0 0
            """;
        String imageAlone = States.RICH + "image\n";
        same(imageAlone + "night deep 2 m<9\n" + changes + "undo\n", States.HOUSE, "undo = 3");
        for (String state : new String[] {States.RICH, States.AWAKE}) {
            Calls untouched = new Calls();
            untouched.answersOf(state);
            List<Long> due = untouched.answersOf(States.HOUSE);
            Calls undone = new Calls();
            undone.answersOf(state + "image\n" + changes + "night\n");
            C.due("undo: how many WALKERS", undone.answersOf("undo").get(0), 3);
            C.due("undo: all is as THE IMAGE", undone.answersOf(States.HOUSE).equals(due) ? 1 : 0, 1);
            C.due("512 calls at most behind undo", undone.made() <= Calls.MOST ? 1 : 0, 1);
        }
    }

    /** The look has to see each change, or it would be no use. */
    private static void looksSee() {
        String changes = "creak 0 4\ntoy 0 true\ndoor 0\nwalker 0 0 0\nput 0 9\nrow 0 0 1\nfeed 59\nnight\nstep 1 0\nstill 1\nlull\n"
            + "way 1\nway -1\nsee 0 0 true\nsee -1 0 true\nbook 1\nbook -1\nimage\nundo\nact 0 0 1\nact 9 0 1\n"
            + "tape 0 0 4\ntape 2 0 1\ntape 1 -1 0\nitem 0 0 1\nshift 1 2 3 0 1\nshift 1 2 1 0 1";
        Calls untouched = new Calls();
        untouched.answersOf(States.RICH);
        List<Long> before = untouched.answersOf(States.WHOLE);
        for (String each : changes.split("\n")) {
            Calls calls = new Calls();
            calls.answersOf(States.RICH + each);
            C.due("the look sees " + each, calls.answersOf(States.WHOLE).equals(before) ? 1 : 0, 0);
        }
    }
}
