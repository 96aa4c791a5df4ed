import com.sun.management.ThreadMXBean;
import java.lang.management.ManagementFactory;

/** All calls of a run live in one room: an object is small, and its calls make nothing. */
public final class RoomTest {
    private static final String TEXT = "cloth 4 3;slack 3;mended 4;stuff a 90 45 9 1000 10 1;stuff b 9 40 80 300 20 200;"
            + "story s hang 20 1 4 50;story t hang 9 0 9 20;eye e sees 1 2 3 sees 4 5 6 sees 7 8 9;";

    public static void main(String[] args) {
        Check check = new Check("RoomTest");
        ThreadMXBean bean = (ThreadMXBean) ManagementFactory.getThreadMXBean();
        ClothBack x = new ClothBack();
        Check.tape(x, TEXT);
        allCalls(x);
        Check.tape(x, TEXT);
        allCalls(x);
        Check.tape(x, TEXT);
        long before = bean.getCurrentThreadAllocatedBytes();
        allCalls(x);
        long made = bean.getCurrentThreadAllocatedBytes() - before;
        check.holds("calls make nothing, but made " + made + " bytes", made < 64);
        before = bean.getCurrentThreadAllocatedBytes();
        ClothBack y = new ClothBack();
        made = bean.getCurrentThreadAllocatedBytes() - before;
        check.holds("an object is small, but made " + made + " bytes", made < 60000 && y.count(1) == 0);
        check.close();
    }

    private static int allCalls(ClothBack x) {
        int sum = x.feed(0x20202020, 0x20202020, 0x20202020, 0x20202020, 0x20202020);
        sum += x.cloth() + x.fault(0) + x.told(0) + x.strength(0, 5) + x.hours(0, 1, 0, 0) + x.thread(0, 1, 1, 1);
        sum += x.colour(20, 5, 1) + x.world(1, 7, 0) + x.look(1, 0, 0, 9, 9, 9) + x.gone(1, 1, 0);
        sum += x.attempt(2, 2, 5, 9, 9, 9) + x.right(2, 0, 8, 8, 8) + x.shows(0, 0, 2, 0) + x.keep(0) + x.take(0);
        for (int cell = 0; cell < 12; cell++) {
            sum += x.fit(cell, 0, 2, 0) + x.pair(cell, 0, 2, 1, 0) + x.was(cell, 0, 2, 1, true);
            sum += x.grey(cell, 0, 2, 9, 0) + x.mended(cell, 0, 2) + x.lightBack(cell, 0, 7, 2, true);
            sum += x.vat(cell, (cell + 1) % 12, 0, 2, false) + x.beside(cell, 0, 2, 0) + x.thrown(cell, 0, 0, 9, 3);
        }
        sum += x.stories(2) + x.vats(0, 2) + x.next(0, 5) + x.cannot(0, 0, 9, 3) + x.bear(0, 3, 4);
        return sum + x.count(4) + x.end(0);
    }
}
