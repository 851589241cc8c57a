import com.sun.management.ThreadMXBean;
import java.lang.management.ManagementFactory;

/** The dearest calls, as if all 512 were of one kind: what they make stays far below the one room that all calls of a run have. */
public final class RoomTest {
    // 7.3 million fields and elements of four bytes, less a good part for the calls' other needs.
    private static final long ROOM = 4L * 7_300_000 / 2;
    private static final int CALLS = 512;
    // So many are made, in some of the kinds with others beside them: an object has 512 calls in all.
    private static final int TRIED = 80;

    private interface Call {
        void on(SingingSaw x, int i);
    }

    private static void room(String name, Call call) {
        SingingSaw x = new SingingSaw();
        Check.blade(x, "piece 20 60 5;piece 20 60 5 own 3;piece 20 60 6;unit 60;bear 9999;");
        Check.hand(x, "at 2500 -2000;to -900 900 in 99;shake 99 in 99;wait 2;");
        Check.sentence(x, "sings and not (tone<100 or twice) or rings>5");
        for (int k = 0; k < 40; k++) {
            x.write(2500 - 70 * k, 50 * k - 2000);
        }
        x.keep(0);
        call.on(x, 0);
        ThreadMXBean threads = (ThreadMXBean) ManagementFactory.getThreadMXBean();
        long before = threads.getThreadAllocatedBytes(Thread.currentThread().getId());
        for (int i = 0; i < TRIED; i++) {
            call.on(x, i);
        }
        long made = threads.getThreadAllocatedBytes(Thread.currentThread().getId()) - before;
        System.out.println(name + ": " + made / TRIED + " bytes a call");
        Check.due("room of " + CALLS + " " + name, made / TRIED * CALLS < ROOM, true);
    }

    public static void main(String[] args) {
        int[] word = {0x77616974, 0x20393B77, 0x61697420, 0x393B7761, 0x69742039};
        room("new objects", (x, i) -> new SingingSaw());
        room("blade()", (x, i) -> {
            x.feed(0x70696563, 0x65203630, 0x20393920, 0x32303B20, 0x20202020);
            x.blade();
        });
        room("hand()", (x, i) -> {
            x.feed(word[0], word[1], word[2], word[3], word[4]);
            x.hand();
        });
        room("sentence()", (x, i) -> {
            x.feed(0x73696E67, 0x73202020, 0x20202020, 0x20202020, 0x20202020);
            x.sentence();
        });
        room("form()", (x, i) -> {
            if (i % 20 == 0) {
                x.form(4, 9);
            }
        });
        room("forge()", (x, i) -> x.forge(5, 6));
        room("even()", (x, i) -> x.even(i % 40, 7, 20));
        room("said()", (x, i) -> {
            x.take(0);
            x.said(i);
        });
        room("song()", (x, i) -> {
            x.feed(0x00700071, 0x00720073, 0x00740075, 0x00760077, 0x00780079);
            x.song(200);
        });
        room("which()", (x, i) -> {
            x.feed(0x00007001, 0x00710200, 0x72030073, 0x04007405, 0x00750600);
            x.end(18);
            x.which(200);
        });
        room("image() and restore()", (x, i) -> {
            x.image(i % 2);
            x.restore(i % 2);
        });
        room("tone(), where(), tick()", (x, i) -> {
            x.tone(2500, -2000, 0, 1);
            x.where(2500, -2000, 0, 1, 0);
            x.tick(1 + i % 200, 4);
        });
        room("range(), read(), tremble()", (x, i) -> {
            x.take(0);
            x.range(i % 4);
            x.read(100, 200);
            x.tremble(2500, -2000, 99);
        });
        Check.finish("RoomTest");
    }
}
