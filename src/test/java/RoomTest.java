import com.sun.management.ThreadMXBean;
import java.lang.management.ManagementFactory;

/** All calls of a run live in one room: once an object is made, its calls make no more, but walker() a WALKER. */
public final class RoomTest {
    private static final Check C = new Check();
    private static final ThreadMXBean THREADS = (ThreadMXBean) ManagementFactory.getThreadMXBean();
    /** Of a WALKER with its rows; in bytes. */
    private static final long WALKER = 400;
    private static final String NIGHT = "deep 9 m<6;deep 6 m>4&!(m=7|m=9);creak 4 x=2;hush 2 t=1";

    public static void main(String[] args) {
        run();
        C.due("making an object", made(0) < 20000 ? 1 : 0, 1);
        C.due("making an object and its calls", made(1) - made(0) <= 4 * WALKER ? 1 : 0, 1);
        C.end("RoomTest");
    }

    private static long made(int calls) {
        long before = THREADS.getCurrentThreadAllocatedBytes();
        if (calls == 0) {
            new OnTiptoe();
        } else {
            run();
        }
        return THREADS.getCurrentThreadAllocatedBytes() - before;
    }

    private static void run() {
        OnTiptoe x = new OnTiptoe();
        for (int kind = 3; kind < 7; kind++) {
            x.walker(kind, 5, kind);
        }
        for (int i = 0; i < NIGHT.length(); i++) {
            x.feed(NIGHT.charAt(i));
        }
        x.night();
        x.tape(0, 0, 60);
        x.image();
        for (int i = 0; i < 4; i++) {
            x.toy(i * 2, true);
            x.way(i);
            x.see(i, i, true);
            x.book(i);
            for (int what = 0; what < 2; what++) {
                x.goes(i, what);
                x.quiet(i, what);
                x.set(i, what);
                x.odds(i, what);
                x.mean(i, what);
                x.act(i, what + 1, 7);
                x.trace(what);
            }
            x.out(i);
            x.mend(i);
            x.away(i);
            x.from(i);
            x.deeper(i);
            x.who();
            x.looked();
            x.judge(0, i);
            x.item(0, i, i);
            x.shift(0, 0, 0, i, 50);
            x.tape(0, i, 60);
            x.step(i, i + 2);
            x.undo();
        }
    }
}
