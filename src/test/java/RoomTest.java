import com.sun.management.ThreadMXBean;
import java.lang.management.ManagementFactory;

/** All calls of a run live in one room: a new object takes little of it, and calls take none. */
public final class RoomTest {
    private static final ThreadMXBean THREADS = (ThreadMXBean) ManagementFactory.getThreadMXBean();
    private static final int CALLS = 512;
    private static final long MOST_FOR_OBJECT = 64 * 1024;
    /** What the measuring itself may take. */
    private static final long MOST_FOR_CALLS = 4 * 1024;

    public static void main(String[] args) {
        Check check = new Check();
        // once ahead of measuring, so that the machine has loaded what it loads once
        callAll(made());
        long before = room();
        ClockRiver x = new ClockRiver();
        long forObject = room() - before;
        check.due("a new object's bytes, " + forObject + ", are few", forObject <= MOST_FOR_OBJECT, true);
        x = made();
        before = room();
        callAll(x);
        long forCalls = room() - before;
        check.due("the calls' bytes, " + forCalls + ", are none", forCalls <= MOST_FOR_CALLS, true);
        check.end("RoomTest");
    }

    private static long room() {
        return THREADS.getThreadAllocatedBytes(Thread.currentThread().getId());
    }

    private static ClockRiver made() {
        ClockRiver x = Check.riverOf("turns 20;slack 2;reach a bank 90 gate 9 holds 9;reach b bank 90 gate 9;"
                + "mill m at a needs 3;mill n at b needs 4;winder w strength 5;winder v strength 9 wage 2;");
        Check.weeks(x, "loop 99;any;hour 24;when stored a<20;gate a 5;end;end;");
        for (int tray = 0; tray < 4; tray++) {
            x.tray(tray, 2, 60);
        }
        return x;
    }

    private static void callAll(ClockRiver x) {
        for (int i = 0; i < CALLS / 32; i++) {
            x.mark();
            x.hour(1);
            x.wind(0, false);
            x.oil();
            x.gate(0, i);
            x.bring(0, 9);
            x.turnsIn(500);
            x.storedIn(0, 500);
            x.groundIn(0, 500);
            x.seaIn(500);
            x.dryIn(0);
            x.floodIn(0);
            x.stillIn();
            x.enough(0, 100, 100);
            x.bestGate(0, 48);
            x.bestGround(0, 48);
            x.hire(4, 20);
            x.hireAt(4, 20, 3);
            x.wound(0, 60);
            x.game(0, 1, 4);
            x.moveOf(0, 1, 4);
            x.share(0);
            x.wet(12, 6);
            x.live(i);
            x.mean(i, 20);
            x.tray(0, 2, 60);
            x.pour(0, 0, 1, 0, 60);
            x.copyStored(0);
            x.back();
            // "oil;" and blanks
            x.feed(0x6f696c3b, 0x20202020, 0x20202020, 0x20202020, 0x20202020);
            x.weeks(i % 2 == 0 ? 20 : 3);
            x.lived(0);
        }
        x.river(0);
    }
}
