/** Promises 24 to 30: seen, odds, books, judging. */
public final class SeenTest {
    private static final Check C = new Check();
    private static final long NO = Long.MIN_VALUE;

    public static void main(String[] args) {
        see();
        who();
        odds();
        mean();
        book();
        looked();
        judge();
        C.end("SeenTest");
    }

    private static void see() {
        OnTiptoe x = new OnTiptoe();
        C.due("p24 no board", x.see(12, 0, true), -1);
        C.due("p24 no board", x.see(-2, 0, true), -1);
        C.due("p24 no board ahead of n", x.see(12, 31, true), -1);
        C.due("p24 n", x.see(0, 31, true), -2);
        C.due("p24 n", x.see(0, -1, true), -2);
        for (int i = 1; i <= 6; i++) {
            C.due("p24", x.see(i + 5, i == 1 ? 30 : 0, i % 2 == 0), i);
        }
        C.due("p24 full", x.see(0, 0, true), -4);
        C.due("p24 n ahead of full", x.see(0, 31, true), -2);
        C.due("p24 no board ahead of full", x.see(12, 0, true), -1);
        C.due("p24 count", x.count(3), 6);
        C.due("p24 none then, whatever the others are", x.see(-1, 31, true), 0);
        C.due("p24 count", x.count(3), 0);
        C.due("p24 again", x.see(0, 0, false), 1);
    }

    private static void who() {
        OnTiptoe x = new OnTiptoe();
        C.due("p25 nobody", x.who(), 0);
        x.walker(0, 0, 0);
        x.walker(1, 6, 0);
        x.walker(2, 0, 0);
        C.due("p25 nothing seen: all", x.who(), 7);
        x.see(3, 0, true);
        C.due("p25 9 is above 8", x.who(), 2);
        x.see(-1, 0, true);
        x.see(3, 0, false);
        C.due("p25 not above", x.who(), 5);
        x.creak(3, 8);
        C.due("p25 8 is not above 8", x.who(), 5);
        x.creak(3, 9);
        C.due("p25 9 is above 8", x.who(), 4);
        x.see(4, 5, false);
        C.due("p25 all of it", x.who(), 4);
        x.see(4, 5, true);
        C.due("p25 not both", x.who(), 0);
        OnTiptoe y = new OnTiptoe();
        y.walker(0, 0, 0);
        y.walker(4, 0, 0);
        Check.night(y, "deep 4 m=2;deep 3 m<2");
        y.still(1);
        y.see(5, 1, true);
        C.due("p25 minute 2: TIRED 5 above 4", y.who(), 2);
        y.see(5, 0, true);
        C.due("p25 minute 1: 4 above 3", y.who(), 2);
        y.see(5, 30, true);
        C.due("p25 minute 31: all above 0", y.who(), 2);
        y.see(-1, 0, true);
        y.see(5, 30, true);
        C.due("p25 minute 31: all above 0", y.who(), 3);
    }

    private static void oddsAre(OnTiptoe x, String what, long above, long below) {
        C.due("p26 above: " + what, x.odds(0, 0), above);
        C.due("p26 below: " + what, x.odds(0, 1), below);
    }

    private static void odds() {
        OnTiptoe x = new OnTiptoe();
        C.due("p26 nobody", x.odds(0, 0), NO);
        x.walker(0, 0, 0);
        oddsAre(x, "no way", 1, 1);
        x.way(1);
        oddsAre(x, "sure", 1, 1);
        Check.night(x, "deep 8 m<3");
        oddsAre(x, "3 of 12", 1, 4);
        Check.night(x, "deep 8 m<5");
        oddsAre(x, "5 of 12", 5, 12);
        x.creak(1, 9);
        oddsAre(x, "never", 0, 1);
        C.due("p26 no part", x.odds(0, 2), NO);
        C.due("p26 no part", x.odds(0, -1), NO);
        C.due("p26 no walker", x.odds(1, 0), NO);
        C.due("p26 no walker", x.odds(-1, 0), NO);
        OnTiptoe y = new OnTiptoe();
        y.walker(0, 0, 0);
        y.creak(0, 5);
        y.creak(1, 5);
        y.step(0, 1);
        y.step(0, 0);
        y.way(1);
        oddsAre(y, "stirs go by: 11 of 12", 11, 12);
        C.due("p26 changes nothing", y.told(1), 2);
        y.step(0, 1);
        y.put(0, 0);
        C.due("p26 awake", y.told(2), 1);
        oddsAre(y, "as if it slept", 1, 1);
        OnTiptoe z = new OnTiptoe();
        z.walker(0, 0, 0);
        z.creak(0, 5);
        z.creak(1, 5);
        z.step(0, 1);
        z.step(0, 0);
        z.way(1);
        z.way(0);
        Check.night(z, "deep 8 m<12;deep 12 m=2");
        oddsAre(z, "two STILL MINUTES at least, 10 of 12", 5, 6);
    }

    private static void meanIs(OnTiptoe x, String what, int board, long above, long below) {
        C.due("p27 above: " + what, x.mean(board, 0), above);
        C.due("p27 below: " + what, x.mean(board, 1), below);
    }

    private static void mean() {
        OnTiptoe x = new OnTiptoe();
        C.due("p27 nobody", x.mean(0, 0), NO);
        x.walker(0, 0, 0);
        meanIs(x, "one", 4, 3, 1);
        x.walker(1, 4, 0);
        meanIs(x, "3 and 7", 4, 5, 1);
        x.walker(2, 0, 0);
        meanIs(x, "3, 7 and 1", 4, 11, 3);
        x.walker(5, 9, 0);
        meanIs(x, "3, 7, 1 and 0", 4, 11, 4);
        x.toy(4, true);
        meanIs(x, "12, 16, 6 and 6", 4, 10, 1);
        x.creak(5, 0);
        meanIs(x, "0, 4, 0 and 0", 5, 1, 1);
        C.due("p27 no board", x.mean(12, 0), NO);
        C.due("p27 no board", x.mean(-1, 0), NO);
        C.due("p27 no part", x.mean(0, 2), NO);
        C.due("p27 no part", x.mean(0, -1), NO);
        OnTiptoe y = new OnTiptoe();
        y.walker(2, 0, 0);
        y.walker(2, 0, 0);
        y.creak(0, 1);
        meanIs(y, "nothing", 0, 0, 1);
        OnTiptoe z = new OnTiptoe();
        z.walker(4, 0, 0);
        z.still(5);
        meanIs(z, "by minute as it is now", 0, 5, 1);
    }

    private static void book() {
        OnTiptoe x = new OnTiptoe();
        C.due("p28 empty", x.book(-1), 0);
        C.due("p28 below", x.book(-2), -2);
        C.due("p28 above", x.book(1000), -2);
        for (int i = 1; i <= 12; i++) {
            C.due("p28", x.book(i == 1 ? 999 : 0), i);
        }
        C.due("p28 full", x.book(0), -4);
        C.due("p28 bad ahead of full", x.book(1000), -2);
        C.due("p28 count", x.count(4), 12);
        C.due("p28 empty then", x.book(-1), 0);
        C.due("p28 count", x.count(4), 0);
        C.due("p28 again", x.book(0), 1);
    }

    private static void looked() {
        OnTiptoe x = new OnTiptoe();
        C.due("p29 nothing in it", x.looked(), -5);
        x.book(8);
        C.due("p29 as it is", x.looked(), -5);
        Check.night(x, "deep 8 m<3;deep 1 m=1");
        C.due("p29 minute 1 is otherwise", x.looked(), 0);
        x.book(-1);
        x.book(9);
        x.book(8);
        x.book(0);
        C.due("p29 as it is", x.looked(), -5);
        x.book(1);
        x.book(1);
        C.due("p29 the first that is otherwise", x.looked(), 3);
        x.still(12);
        C.due("p29 twelve minutes on", x.looked(), 3);
        x.still(1);
        C.due("p29 from now", x.looked(), 0);
        OnTiptoe y = new OnTiptoe();
        Check.night(y, "deep 99 m<12");
        for (int i = 0; i < 12; i++) {
            y.book(i == 11 ? 98 : 99);
        }
        C.due("p29 the last", y.looked(), 11);
    }

    private static void judge() {
        OnTiptoe x = new OnTiptoe();
        C.due("p30 no tape", x.judge(6, 0), -1);
        C.due("p30 no tape", x.judge(-1, 0), -1);
        C.due("p30 nothing there", x.judge(0, 0), 100);
        C.due("p30 nothing there", x.judge(0, -1), 100);
        for (int sort = 1; sort <= 4; sort++) {
            x.tape(1, sort, 20);
            C.due("p30 another sort", x.judge(1, 0), -12);
            C.due("p30 another sort ahead of the place", x.judge(1, -1), -12);
        }
        x.tape(0, 0, 14);
        for (int b = 0; b < 12; b++) {
            x.creak(b, b % 10);
            x.item(0, b + 2, b % 10);
        }
        C.due("p30 all as told", x.judge(0, 2), -5);
        C.due("p30 otherwise at once", x.judge(0, 3), 0);
        C.due("p30 0, then otherwise", x.judge(0, 1), 1);
        C.due("p30 below 0", x.judge(0, -1), 100);
        C.due("p30 at the end", x.judge(0, 14), 100);
        C.due("p30 beyond the end", x.judge(0, Integer.MAX_VALUE), 100);
        C.due("p30 otherwise, then the end", x.judge(0, 13), 0);
        x.creak(11, 9);
        C.due("p30 the last is otherwise", x.judge(0, 2), 11);
        x.tape(0, 0, 12);
        for (int b = 0; b < 10; b++) {
            x.item(0, b + 2, b);
        }
        C.due("p30 the row ends ahead", x.judge(0, 2), 110);
        x.creak(0, 0);
        x.creak(1, 9);
        x.item(0, 11, 0);
        C.due("p30 one looked at", x.judge(0, 11), 101);
        x.tape(0, 0, 0);
        C.due("p30 a row of none", x.judge(0, 0), 100);
        x.tape(0, 0, 12);
        x.creak(0, 0);
        x.item(0, 0, 256);
        x.creak(1, 5);
        x.item(0, 1, 256 + 5);
        C.due("p30 a byte has its lowest bits", x.judge(0, 0), 2);
    }
}
