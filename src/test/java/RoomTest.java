import com.sun.management.ThreadMXBean;
import java.lang.management.ManagementFactory;

/** All calls of a run live in one room: calls make nothing, and a new object makes little. */
public final class RoomTest {
    private static final ThreadMXBean THREADS = (ThreadMXBean) ManagementFactory.getThreadMXBean();
    private static long sum = 0;

    public static void main(String[] args) {
        for (int i = 0; i < 20; i++) {
            calls(new LeftGloves());
            made(new LeftGloves());
        }
        LeftGloves x = new LeftGloves();
        Due.is("bytes made by all calls", made(x), 0);
        long before = bytes();
        for (int i = 0; i < 100; i++) {
            sum += new LeftGloves().count(6);
        }
        long each = (bytes() - before) / 100;
        Due.is("a new object takes 8192 bytes at most (" + each + ")", each <= 8192 ? 1 : 0, 1);
        Due.is("answers came", sum != 0 ? 1 : 0, 1);
        Due.end();
    }

    private static long bytes() {
        return THREADS.getThreadAllocatedBytes(Thread.currentThread().getId());
    }

    private static long made(LeftGloves x) {
        long before = bytes();
        long between = bytes();
        calls(x);
        long after = bytes();
        return after - between - (between - before);
    }

    /** Every call, with gloves, and with what costs most. */
    private static void calls(LeftGloves x) {
        for (int g = 0; g < 9; g++) {
            sum += x.glove(g % 7, g % 3);
        }
        sum += x.sheet(0, 32, 40) + x.sheet(1, 32, 40) + x.write(0, 0, 5) + x.copy(0, 0, 1, 0, 40);
        sum += x.fits(0, 0) + x.kinds(0, 0) + x.load(0) + x.judge(0);
        sum += x.say(0, 5) + x.said(0) + x.room(0, 1) + x.room(0, 2) + x.room(0, 3);
        for (int what = 0; what < 11; what++) {
            sum += x.of(0, what) + x.change(0, what, 1) + x.now(what) + x.count(what) + x.ahead(0, what, 100) + x.status(what);
        }
        sum += x.draw(0) + x.who(1, 0) + x.go(60) + x.hears(0, 15) + x.wise(0, 16) + x.out(65535);
        sum += x.leave(0, 60) + x.openFor(0, 16, 60) + x.kindFor(0, 60) + x.lower(0) + x.cover(65535) + x.away(0, 15, 20);
        sum += x.talk(20) + x.odds(0, 15, 1) + x.seed(3) + x.hold(0, 0) + x.as(0, 0);
        sum += x.image() + x.undo() + x.tear();
        sum += x.feed(0x6c616479, 4) + x.feed(0x3b676c6f, 4) + x.feed(0x7665, 2) + x.text() + x.feed(32, 1) + x.wipe();
    }
}
