/** The bounds that the document names for promises 9 to 11: THE TEXT, NIGHTS, DEPTH, LOUD, NOISE. */
public final class NightEdgesTest {
    private static final Check C = new Check();

    public static void main(String[] args) {
        text();
        clauses();
        blanks();
        numbers();
        within();
        faultAtEachPlace();
        faultBySign();
        newest();
        behindNight();
        minutes();
        relations();
        depths();
        letters();
        kinds();
        louds();
        noiseByLoud();
        noiseByMinute();
        told();
        C.end("NightEdgesTest");
    }

    /** A text whose FAULT is at a place; a NIGHT, if that is below 0. */
    private static void fault(String sentence, String text, int place) {
        C.due(sentence + ": '" + text + "'", Check.night(new OnTiptoe(), text), place < 0 ? 0 : -10 - place);
    }

    private static void text() {
        C.edge("THE TEXT (bytes, 100 at most)", """
            count 5 = 0
            99* feed 100 = 99
            feed 100 = 100
            feed 100 = -4
            feed 0 = -4
            feed 127 = -4
            feed -1 = -2
            feed 128 = -2
            count 5 = 100
            night = -11
            count 5 = 0
            feed 100 = 1
            """);
        C.edge("feed: a sign (0 .. 127)", """
            feed 0 = 1
            feed 127 = 2
            feed -1 = -2
            feed 128 = -2
            feed 356 = -2
            feed MAX = -2
            feed MIN = -2
            count 5 = 2
            """);
        String hundred = "deep 1 m<3" + "&m<3".repeat(20) + "&m<03".repeat(2);
        C.due("a NIGHT of 100 bytes has them", hundred.length(), 100);
        OnTiptoe x = new OnTiptoe();
        C.due("a NIGHT of 100 bytes", Check.night(x, hundred), 0);
        C.due("a NIGHT of 100 bytes holds", x.told(3), 1);
        x.still(3);
        C.due("a NIGHT of 100 bytes is over", x.told(3), 0);
    }

    private static void clauses() {
        String sentence = "CLAUSES, 1 to 10, with ; between";
        fault(sentence, "", 0);
        fault(sentence, ";", 0);
        fault(sentence, "deep 1 m<9", -1);
        fault(sentence, ";deep 1 m<9", 0);
        fault(sentence, "deep 1 m<9;", 11);
        fault(sentence, "deep 1 m<9;;", 11);
        fault(sentence, "deep 1 m<9,deep 1 m<9", 10);
        fault(sentence, "deep 1 m<9deep 1 m<9", 10);
        fault(sentence, "deep 1 m<9;deep 1 m<9", -1);
        fault(sentence, "deep 1 m<9;creak 1 m<9;hush 1 m<9", -1);
        // A CLAUSE has 10 bytes at least, so of the 10 only 9 fit into the 100 bytes.
        C.edge(sentence, """
            text deep 1 m<9;deep 2 m<9;deep 3 m<9;deep 4 m<9;deep 5 m<9;deep 6 m<9;deep 7 m<9;deep 8 m<9;deep 9 m<9 = 98
            night = 0
            told 3 = 45
            text deep 1 m<9;deep 2 m<9;deep 3 m<9;deep 4 m<9;deep 5 m<9;deep 6 m<9;deep 7 m<9;deep 8 m<9;deep 9 m<9;d = 100
            night = -110
            told 3 = 45
            """);
    }

    private static void blanks() {
        String sentence = "one blank ahead of each part behind the word";
        fault(sentence, "deep1 m<9", 4);
        fault(sentence, "deep  1 m<9", 5);
        fault(sentence, "deep 1m<9", 6);
        fault(sentence, "deep 1  m<9", 7);
        fault(sentence, "deep\t1 m<9", 4);
        fault(sentence, "creak1 m<9", 5);
        fault(sentence, "creak  1 m<9", 6);
        fault(sentence, "hush 12m<9", 7);
        fault(sentence, "hush 12  m<9", 8);
        fault(sentence, " deep 1 m<9", 0);
        fault(sentence, "deep 1 m<9 ", 10);
        fault(sentence, "deep 1 m<12 ", 11);
        fault(sentence, "deep 1 m<9; deep 1 m<9", 11);
        fault(sentence, "deep 1 m<9 ;deep 1 m<9", 10);
        fault(sentence, "deep 1 m <9", 8);
        fault(sentence, "deep 1 m< 9", 9);
        fault(sentence, "deep 1 ! m<9", 8);
        fault(sentence, "deep 1 ( m<9)", 8);
        fault(sentence, "deep 1 (m<9 )", 11);
        fault(sentence, "deep 1 m<9 &m<9", 10);
        fault(sentence, "deep 1 m<9& m<9", 11);
    }

    private static void numbers() {
        String sentence = "n 1 or 2 digits";
        fault(sentence, "deep  m<9", 5);
        fault(sentence, "deep 0 m<9", -1);
        fault(sentence, "deep 9 m<9", -1);
        fault(sentence, "deep 00 m<9", -1);
        fault(sentence, "deep 99 m<9", -1);
        fault(sentence, "deep 099 m<9", 7);
        fault(sentence, "deep 100 m<9", 7);
        fault(sentence, "creak 100 m<9", 8);
        fault(sentence, "hush 100 m<9", 7);
        fault(sentence, "deep -1 m<9", 5);
        C.edge(sentence, "night deep 0 m<9 = 0\n told 3 = 0\n night deep 99 m<9 = 1\n told 3 = 99\n"
            + "night deep 09 m<9 = 2\n told 3 = 9\n night deep 10 m<9 = 3\n told 3 = 10");
        sentence = "a number (1 or 2 digits)";
        fault(sentence, "deep 1 m<", 9);
        fault(sentence, "deep 1 m<&", 9);
        fault(sentence, "deep 1 m<0", -1);
        fault(sentence, "deep 1 m<00", -1);
        fault(sentence, "deep 1 m<99", -1);
        fault(sentence, "deep 1 m<100", 11);
        fault(sentence, "deep 1 m<-1", 9);
        C.edge(sentence, "night deep 5 m<0 = 0\n told 3 = 0\n night deep 5 m<01 = 1\n told 3 = 5\n"
            + "night deep 5 m<99 = 2\n told 3 = 5\n night deep 5 m=00 = 3\n told 3 = 5\n"
            + "night deep 5 m=0|(m=2&m<0) = 4\n told 3 = 5\n night deep 5 m<10 = 5\n still 10 = 10\n told 3 = 0");
    }

    private static void within() {
        for (int mix = 0; mix < 16; mix++) {
            StringBuilder open = new StringBuilder("deep 1 ");
            StringBuilder close = new StringBuilder();
            for (int i = 0; i < 4; i++) {
                boolean bracket = (mix >> i & 1) == 1;
                open.append(bracket ? '(' : '!');
                close.append(bracket ? ")" : "");
                if (i < 3) {
                    fault("a ( or ! within fewer than 4 others", open + "m<9" + close, -1);
                }
            }
            fault("a ( or ! within 3 others", open + "m<9" + close, -1);
            fault("a ( within 4 others is none", open + "(m<9)" + close, 11);
            fault("a ! within 4 others is none", open + "!m<9" + close, 11);
        }
        fault("a ( or ! within 4 others, behind another F", "deep 1 ((((m<9&(m<9)))))", 15);
        fault("a ( or ! within 4 others, behind another F", "deep 1 !!((m<9|!m<9))", 15);
        String sentence = "a ( or ! is within those alone that are open";
        fault(sentence, "deep 1 ((((m<9))))&((((m<9))))|((((m<9))))", -1);
        fault(sentence, "deep 1 !!!!m<9&!!!!m<9|!!!!m<9", -1);
        fault(sentence, "deep 1 (((!m<9&!m<9)|!m<9)&(!m<9))", -1);
        fault(sentence, "deep 1 !!!!m<9;deep 1 ((((m<9))))", -1);
        fault(sentence, "deep 1 !!!!m<9;deep 1 (((((m<9)))))", 26);
    }

    private static void faultAtEachPlace() {
        String night = "creak 12 m<3&!(x=10|y>0);hush 4 t=1;deep 5 c=6";
        for (int length = 0; length <= night.length(); length++) {
            boolean ends = length == 12 || length == 24 || length == 35 || length == 46;
            fault("the FAULT: the end of THE TEXT, if it ends too early", night.substring(0, length), ends ? -1 : length);
        }
        for (int place = 0; place < night.length(); place++) {
            String spoilt = night.substring(0, place) + "?" + night.substring(place + 1);
            fault("the FAULT: the place of the first byte with which none begins so", spoilt, place);
            fault("the FAULT: the first, if there are two", spoilt.substring(0, place + 1) + "????", place);
        }
        fault("the FAULT: the byte behind a NIGHT", night + "?", 46);
        fault("the FAULT: a ) that closes nothing", "deep 1 m<9)", 10);
        fault("the FAULT: a ( that nothing closes", "deep 1 (m<9", 11);
        fault("the FAULT: a ; within a (", "deep 1 (m<9;deep 1 m<9)", 11);
        fault("the FAULT: nothing in a (", "deep 1 ()", 8);
        fault("the FAULT: two & behind one another", "deep 1 m<9&&m<9", 11);
        fault("the FAULT: | ahead of all", "deep 1 |m<9", 7);
        fault("the FAULT: & ahead of all", "deep 1 &m<9", 7);
    }

    private static void faultBySign() {
        for (char sign = 0; sign < 128; sign++) {
            boolean digit = sign >= '0' && sign <= '9';
            fault("the word", sign + "eep 1 m<9", sign == 'd' ? -1 : sign == 'c' || sign == 'h' ? 1 : 0);
            fault("n, the first digit", "deep " + sign + " m<9", digit ? -1 : 5);
            fault("n, the second digit", "deep 1" + sign + "m<9", sign == ' ' ? -1 : digit ? 7 : 6);
            boolean letter = "mxyckt".indexOf(sign) >= 0;
            fault("a letter", "deep 1 " + sign + "<9", letter ? -1 : sign == '(' || sign == '!' ? 8 : 7);
            fault("< or = or >", "deep 1 m" + sign + "9", sign == '<' || sign == '=' || sign == '>' ? -1 : 8);
            fault("a number, the first digit", "deep 1 m<" + sign, digit ? -1 : 9);
            boolean more = sign == '&' || sign == '|' || sign == ';';
            fault("behind a number of one digit", "deep 1 m<9" + sign, digit ? -1 : more ? 11 : 10);
            fault("behind a number of two digits", "deep 1 m<11" + sign, more ? 12 : 11);
            fault("within a (", "deep 1 (m<11" + sign, sign == ')' ? -1 : sign == '&' || sign == '|' ? 13 : 12);
        }
    }

    private static void newest() {
        C.edge("without one there are no CLAUSES", """
            walker 0 0 0 = 0
            told 3 = 8
            of 0 10..21 = 3
            count 1 = 0
            """);
        C.edge("the newest NIGHT holds (6 at most)", """
            night deep 1 m<9 = 0
            told 3 = 1
            night deep 2 m<9 = 1
            told 3 = 2
            night deep 3 m<9 = 2
            told 3 = 3
            night deep 4 m<9 = 3
            told 3 = 4
            night deep 5 m<9 = 4
            told 3 = 5
            night deep 6 m<9 = 5
            told 3 = 6
            count 1 = 6
            night deep 7 m<9 = -4
            told 3 = 6
            count 1 = 6
            """);
        C.edge("night: FULL: there are 6 (THE TEXT stays)", """
            5* night deep 1 m<9 = 4
            night deep 6 m<9 = 5
            night deep 7 m<9 = -4
            count 5 = 10
            night = -4
            count 5 = 10
            feed 59 = 11
            """);
        C.edge("night: FULL ahead of the FAULT", """
            6* night deep 1 m<9 = 5
            night = -4
            count 5 = 0
            night ? = -4
            count 5 = 1
            night ? = -4
            count 5 = 2
            told 3 = 1
            """);
    }

    private static void behindNight() {
        C.edge("THE TEXT, which is empty then", """
            text deep 1 m<9 = 10
            night = 0
            count 5 = 0
            night = -10
            told 3 = 1
            feed 100 = 1
            """);
        C.edge("-10 less the FAULT (the one that held holds); THE TEXT is empty then", """
            night deep 9 m<9;creak 2 x=0 = 0
            walker 0 0 0 = 0
            night deep 1 m<9;creak 5 x=1;q = -33
            count 5 = 0
            count 1 = 1
            told 3 = 9
            of 0 10..12 = 5 3 3
            night deep 2 m<9 = 1
            told 3 = 2
            of 0 10..12 = 3
            """);
        C.edge("a FAULT ahead of the first NIGHT: there is none", """
            night deep 1 m<9; = -21
            count 1 = 0
            told 3 = 8
            night deep 1 m<9 = 0
            """);
        String long98 = "deep 5 m<9" + "&m<9".repeat(22);
        C.edge("a FAULT leaves nothing of its CLAUSES", "3* night " + long98 + "& = -109\n walker 0 0 0 = 0\n"
            + "night creak 1 x=2&!y=1 = 0\n told 3 = 8\n of 0 10..21 = 3 3 4 3 3 3 3 3 3 3 3 3");
        C.edge("a FAULT takes no NIGHT's number, though there are many", """
            20* night deep 5 m<9& = -21
            night deep 5 m<9 = 0
            told 3 = 5
            """);
    }

    private static void minutes() {
        C.edge("m MINUTE modulo 12", """
            night deep 5 m=11;deep 20 m=0 = 0
            told 3 = 20
            still 10 = 10
            told 3 = 0
            still 1 = 11
            told 3 = 5
            still 1 = 12
            told 3 = 20
            still 1 = 13
            told 3 = 0
            still 10 = 23
            told 3 = 5
            still 1 = 24
            told 3 = 20
            night deep 7 m>11 = 1
            told 3 = 0
            still 11 = 35
            told 3 = 0
            night deep 7 m<12 = 2
            told 3 = 7
            """);
    }

    private static void relations() {
        C.edge("a TEST: <", "night deep 5 m<3 = 0\n still 2 = 2\n told 3 = 5\n still 1 = 3\n told 3 = 0\n still 1 = 4\n told 3 = 0");
        C.edge("a TEST: =", "night deep 5 m=3 = 0\n still 2 = 2\n told 3 = 0\n still 1 = 3\n told 3 = 5\n still 1 = 4\n told 3 = 0");
        C.edge("a TEST: >", "night deep 5 m>3 = 0\n still 2 = 2\n told 3 = 0\n still 1 = 3\n told 3 = 0\n still 1 = 4\n told 3 = 5");
    }

    private static void depths() {
        C.edge("DEPTH: 8, if there are no deep CLAUSES at all", """
            night creak 5 m<9 = 0
            told 3 = 8
            night hush 5 m<9;creak 9 m<9 = 1
            told 3 = 8
            night deep 5 m=1;creak 9 m<9 = 2
            told 3 = 0
            night deep 0 m<9 = 3
            told 3 = 0
            """);
        C.edge("DEPTH: the n of all deep whose E holds, together", """
            night deep 1 m<1;deep 2 m<2;deep 4 m<3;creak 50 m<9;hush 50 m<9 = 0
            told 3 = 7
            still 1 = 1
            told 3 = 6
            still 1 = 2
            told 3 = 4
            still 1 = 3
            told 3 = 0
            night deep 99 m<9;deep 99 m<9;deep 99 m<9;deep 99 m<9;deep 99 m<9;deep 99 m<9;deep 99 m<9;deep 99 m<9 = 1
            told 3 = 792
            """);
        C.edge("of deep: x, y, c, k, t 0", """
            walker 6 9 11 = 0
            creak 0 9 = 3
            toy 0 true = 0
            night deep 1 x=0;deep 2 y=0;deep 4 c=0;deep 8 k=0;deep 16 t=0 = 0
            told 3 = 31
            night deep 1 x>0;deep 2 y>0;deep 4 c>0;deep 8 k>0;deep 16 t>0 = 1
            told 3 = 0
            """);
    }

    private static void letters() {
        C.edge("c its CREAK", """
            walker 0 0 0 = 0
            creak 0 0 = 3
            creak 1 9 = 3
            creak 2 9 = 3
            toy 2 true = 0
            night creak 5 c=0 = 0
            of 0 10..13 = 5 9 18 3
            night creak 5 c=9 = 1
            of 0 10..13 = 0 14 23 3
            night creak 5 c>9 = 2
            of 0 10..13 = 0 9 18 3
            night creak 5 c<9 = 3
            of 0 10..13 = 5 9 18 8
            """);
        C.edge("t whether there is a TOY (1, 0)", """
            walker 0 0 0 = 0
            toy 11 true = 0
            night creak 5 t=1 = 0
            of 0 20..21 = 3 17
            night creak 5 t=0 = 1
            of 0 20..21 = 8 12
            night creak 5 t>1 = 2
            of 0 20..21 = 3 12
            """);
        C.edge("m of a BOARD's LOUD", """
            walker 0 0 0 = 0
            night creak 5 m=11 = 0
            still 11 = 11
            of 0 10..21 = 8
            still 1 = 12
            of 0 10..21 = 3
            still 11 = 23
            of 0 10..21 = 8
            """);
    }

    private static void kinds() {
        C.edge("k KIND of who treads on it", """
            walker 0..3 0 11 = 0 1 2 3
            night creak 5 k=0 = 0
            of 0..3 10 = 8 3 1 0
            night creak 5 k=1 = 1
            of 0..3 10 = 3 8 1 0
            night creak 5 k=2 = 2
            of 0..3 10 = 3 3 4 0
            night creak 5 k=3 = 3
            of 0..3 10 = 3 3 1 5
            new
            walker 4..6 0 11 = 0 1 2
            night creak 5 k=4 = 0
            of 0..2 10 = 8 1 0
            night creak 5 k=5 = 1
            of 0..2 10 = 3 4 0
            night creak 5 k=6 = 2
            of 0..2 10 = 3 1 5
            night creak 5 k>6 = 3
            of 0..2 10 = 3 1 0
            """);
    }

    private static void louds() {
        C.edge("LOUD: 9 more, if there is a TOY", """
            walker 0 0 0 = 0
            creak 0 0 = 3
            of 0 10 = 0
            toy 0 true = 0
            of 0 10 = 9
            creak 0 9 = 0
            of 0 10 = 18
            toy 0 false = 1
            of 0 10 = 9
            """);
        C.edge("LOUD: together (0 at least)", """
            walker 0 0 0 = 0
            walker 1 2 0 = 1
            night hush 2 x=0 = 0
            of 0..1 10 = 1 3
            night hush 3 x=0 = 1
            of 0..1 10 = 0 2
            night hush 4 x=0 = 2
            of 0..1 10 = 0 2
            of 0..1 11 = 3 5
            night hush 99 m<9;hush 99 m<9 = 3
            of 0 10..21 = 0
            night hush 9 x=0;creak 7 x=0;hush 9 x=1;creak 5 x=1 = 4
            of 0 10..11 = 1 0
            night creak 99 x=0;creak 99 x=0;hush 1 x=0 = 5
            of 0 10..11 = 200 3
            """);
    }

    private static void noiseByLoud() {
        C.edge("SOFT: the half of LOUD (cut)", """
            walker 2 9 11 = 0
            creak 0 0 = 3
            creak 1 1 = 3
            creak 2 2 = 3
            creak 4 9 = 3
            toy 4 true = 0
            toy 0 true = 0
            of 0 10..14 = 4 0 1 1 9
            """);
        C.edge("SLOW: LOUD, 3 less (0 at least)", """
            walker 3 9 11 = 0
            creak 0 0 = 3
            creak 1 2 = 3
            creak 3 4 = 3
            creak 4 9 = 3
            of 0 10..14 = 0 0 0 1 6
            """);
        C.edge("HEAVY: LOUD and v", """
            walker 1 0 11 = 0
            walker 1 9 11 = 1
            creak 0 0 = 3
            creak 1 9 = 3
            of 0..1 10..11 = 0 9 9 18
            """);
        C.edge("WALKER: LOUD, whatever v is", """
            walker 0 9 11 = 0
            creak 0 0 = 3
            of 0 10..11 = 0 3
            """);
        C.edge("BARE: as SOFT, but 0, if LOUD is v or less", """
            walker 5 3 11 = 0
            walker 5 0 11 = 1
            walker 5 9 11 = 2
            creak 0 0 = 3
            creak 1 2 = 3
            creak 3 4 = 3
            creak 4 9 = 3
            creak 5 1 = 3
            toy 5 true = 0
            of 0 10..15 = 0 0 0 2 4 5
            of 1 10..15 = 0 1 1 2 4 5
            of 2 10..15 = 0 0 0 0 0 5
            """);
        C.edge("TOLD: as SLOW (0 at least), and its ROW more", """
            walker 6 9 11 = 0
            row 0 0 9 = 0
            creak 0 0 = 3
            creak 1 2 = 3
            creak 3 4 = 3
            of 0 10..13 = 9 9 9 10
            """);
    }

    private static void noiseByMinute() {
        C.edge("TIRED: as HEAVY, and MINUTE modulo 3 more", """
            walker 4 9 11 = 0
            walker 1 9 11 = 1
            of 0..1 10 = 12
            still 1 = 1
            of 0..1 10 = 13 12
            still 1 = 2
            of 0..1 10 = 14 12
            still 1 = 3
            of 0..1 10 = 12
            still 29 = 32
            of 0..1 10 = 14 12
            """);
    }

    private static void told() {
        C.edge("told: what 0 .. 5; NONE", """
            told -1 = -1
            told 6 = -1
            told MAX = -1
            told MIN = -1
            told 0..5 = 0 0 0 8 11 0
            """);
    }
}
