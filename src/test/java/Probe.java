import java.util.ArrayList;
import java.util.List;

/**
 * All that can be learnt of an object, as rows of calls with their answers: two objects of which one had a call more
 * that must change nothing have to answer alike. The object is used up by it. The text is the tape and its FAULT.
 */
final class Probe {
    private final ClockRiver x;
    private final List<String> rows = new ArrayList<>();

    private Probe(ClockRiver x) {
        this.x = x;
    }

    static List<String> of(ClockRiver x, boolean withFraction, boolean withText) {
        Probe probe = new Probe(x);
        if (withFraction) {
            probe.row("top()", x.top());
            probe.row("bottom()", x.bottom());
        }
        if (withText) {
            probe.row("fault(0)", x.fault(0));
            probe.row("fault(1)", x.fault(1));
        }
        for (int what = 0; what < 5; what++) {
            probe.rowWithStatus("lived(" + what + ")", x.lived(what));
        }
        probe.askTrays();
        probe.askRivers();
        if (withText) {
            probe.askTape();
        }
        return probe.rows;
    }

    private void row(String call, long answer) {
        rows.add(call + " = " + answer);
    }

    private void rowWithStatus(String call, long answer) {
        rows.add(call + " = " + answer + ", STATUS " + x.status());
    }

    private void askTrays() {
        for (int tray = 0; tray < 4; tray++) {
            int status = 0;
            for (int place = 0; status == 0; place++) {
                rowWithStatus("read(" + tray + ", " + place + ")", x.read(tray, place));
                status = x.status();
            }
            // what is left of it tells the sort
            x.write(tray, 0, 0x0123456789abcdefL);
            rowWithStatus("cut in " + tray, x.read(tray, 0));
        }
    }

    /** The RIVER with its WEEKS, and that of each MARK. */
    private void askRivers() {
        for (int marks = 0; marks <= 4; marks++) {
            askRiver();
            rowWithStatus("live(77)", x.live(77));
            for (int what = 0; what < 5; what++) {
                rowWithStatus("lived(" + what + ")", x.lived(what));
            }
            rowWithStatus("many(10)", x.many(10));
            rowWithStatus("turnsLeft()", x.turnsLeft());
            rowWithStatus("back()", x.back());
        }
    }

    private void askRiver() {
        for (int what = 0; what <= 12; what++) {
            rowWithStatus("many(" + what + ")", x.many(what));
        }
        rowWithStatus("turnsLeft()", x.turnsLeft());
        for (int what = 0; what < 6; what++) {
            rowWithStatus("water(" + what + ")", x.water(what));
        }
        for (int i = 0; i < x.many(0); i++) {
            for (int what = 0; what < 5; what++) {
                rowWithStatus("reach(" + i + ", " + what + ")", x.reach(i, what));
            }
        }
        for (int i = 0; i < x.many(1); i++) {
            for (int what = 0; what < 3; what++) {
                rowWithStatus("mill(" + i + ", " + what + ")", x.mill(i, what));
            }
        }
        for (int i = 0; i < x.many(2); i++) {
            for (int what = 0; what < 4; what++) {
                rowWithStatus("winder(" + i + ", " + what + ")", x.winder(i, what));
            }
        }
    }

    /** What stood on the tape is read with a WORD behind it that can't stand there, or would make a NAME longer. */
    private void askTape() {
        int zzzz = 0x7a7a7a7a;
        int fed = x.feed(zzzz, zzzz, zzzz, zzzz, zzzz);
        row("feed", fed);
        rowWithStatus("river of the tape", x.river(fed < 0 ? 900 : fed));
        row("fault(0)", x.fault(0));
        row("fault(1)", x.fault(1));
        askRiver();
    }
}
