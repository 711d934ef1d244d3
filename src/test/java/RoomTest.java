import com.sun.management.ThreadMXBean;
import java.lang.management.ManagementFactory;

/** All calls of one run live in one room: asking makes nothing that stays, and an object is small. */
public final class RoomTest {
    private static final ThreadMXBean MEASURE = (ThreadMXBean) ManagementFactory.getThreadMXBean();
    private static final int ELEMENTS = 14000;

    public static void main(String[] args) {
        UnlikeBoats x = full();
        ask(x);
        long asked = made(() -> ask(x));
        Check.due("bytes made by asking: " + asked, asked <= 1000, true);
        long one = made(UnlikeBoats::new);
        Check.due("bytes of a new object: " + one, one <= 4L * ELEMENTS, true);
        Check.finish("RoomTest");
    }

    private static long made(Runnable work) {
        long least = Long.MAX_VALUE;
        for (int i = 0; i < 5; i++) {
            long ahead = MEASURE.getCurrentThreadAllocatedBytes();
            work.run();
            least = Math.min(least, MEASURE.getCurrentThreadAllocatedBytes() - ahead);
        }
        return least;
    }

    private static UnlikeBoats full() {
        UnlikeBoats x = Check.fleet(5);
        Check.rules(x, 0, "n:900+l;p:k=0?r;p:e*10+10;t:c/3;a:g=0&h=1|d<3?1;b:u");
        for (int i = 0; i < 5; i++) x.certificate(i, 0, 50 + 20 * i, 1, 1);
        for (int race = 0; race < 8; race++) Check.raced(x, 1000, 1010, 1020, 1030, 1040 - 9 * race);
        x.redress(3, 3);
        x.word(0, 0, 5, 50, 50, 3, 255);
        x.word(0, 1, 5, 51, 51, 3, 255);
        x.protest(0, 0, 1, 5);
        return x;
    }

    private static void ask(UnlikeBoats x) {
        for (int i = 0; i < 3; i++) {
            x.measured(1, 0, 0);
            x.fault();
            x.force(0, 0);
            x.number(1, 0, 0);
            x.coded(1, 1, 0);
            x.corrected(1, 1, 0);
            x.placed(1, 1, 0);
            x.points(3, 3, 0);
            x.thrown(3, 3, 0);
            x.total(3, 0);
            x.ranked(4, 0);
            x.states(0, 0, 0);
            x.finding(0, 0, 0);
            x.even(30);
            x.change(30, 2);
            x.middle(3, 3);
            x.fit(3);
            x.suspect(3, 0);
            x.lean(0);
            x.draw(4, i);
            x.told(0, 6);
            x.count(10);
        }
    }
}
