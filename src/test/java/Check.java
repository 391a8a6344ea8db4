/** What the tests share: texts fed as the tape takes them, and answers held against those that are due. */
final class Check {
    private int calls;
    private int wrong;

    void due(String call, long got, long want) {
        calls++;
        if (got != want) {
            wrong++;
            System.out.println(call + " answered " + got + ", due is " + want);
        }
    }

    void due(String call, boolean got, boolean want) {
        due(call, got ? 1 : 0, want ? 1 : 0);
    }

    /** A call that is refused: its answer, its STATUS. */
    void refused(String call, ClockRiver x, long got, int status) {
        due(call, got, -1);
        due(call + ", STATUS", x.status(), status);
    }

    void refused(String call, ClockRiver x, boolean got, int status) {
        due(call, got, false);
        due(call + ", STATUS", x.status(), status);
    }

    /** A call that is taken: its answer, and STATUS 0. */
    void taken(String call, ClockRiver x, long got, long want) {
        due(call, got, want);
        due(call + ", STATUS", x.status(), 0);
    }

    void taken(String call, ClockRiver x, boolean got) {
        due(call, got, true);
        due(call + ", STATUS", x.status(), 0);
    }

    void fraction(String call, ClockRiver x, boolean got, long top, long bottom) {
        taken(call, x, got);
        due(call + ", top", x.top(), top);
        due(call + ", bottom", x.bottom(), bottom);
    }

    void end(String name) {
        System.out.println(name + ": " + calls + " answers, " + wrong + " of them wrong");
        if (wrong != 0) {
            System.exit(1);
        }
    }

    /** Feeds a text, with blanks up to the next 20 bytes; what the last feed answered. */
    static int feed(ClockRiver x, String text) {
        int answer = 0;
        for (int i = 0; i < text.length(); i += 20) {
            int[] five = new int[5];
            for (int j = 0; j < 20; j++) {
                int b = i + j < text.length() ? text.charAt(i + j) & 255 : 32;
                five[j / 4] = five[j / 4] << 8 | b;
            }
            answer = x.feed(five[0], five[1], five[2], five[3], five[4]);
        }
        return answer;
    }

    static int river(ClockRiver x, String text) {
        feed(x, text);
        return x.river(text.length());
    }

    static int weeks(ClockRiver x, String text) {
        feed(x, text);
        return x.weeks(text.length());
    }

    static ClockRiver riverOf(String text) {
        ClockRiver x = new ClockRiver();
        if (river(x, text) < 0) {
            throw new IllegalStateException("no RIVER: " + text + " " + x.fault(0) + " at " + x.fault(1));
        }
        return x;
    }
}
