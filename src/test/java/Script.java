import java.util.ArrayList;
import java.util.List;
import java.util.Map;
import java.util.regex.Matcher;
import java.util.regex.Pattern;

/**
 * One test of src/test/edges: lines of calls on a new object, each with what is due. README.md tells their form.
 * Where a call may change nothing, two objects are made anew by all calls so far; one has that call, too, the other has
 * not: a Probe of each must be the same.
 */
final class Script {
    private static final Pattern OUTCOME = Pattern.compile("^(.*?)(?:\\s+([=!])\\s+(\\S+))?$");
    private static final Pattern TIMES = Pattern.compile("^(\\d+) times (.*)$");
    private static final Pattern EACH = Pattern.compile("^each (.*?): (.*)$");
    private static final Pattern TEXT = Pattern.compile("\"([^\"]*)\"(?:\\*(\\d+))?|([A-Z][A-Z0-9]*)");

    private final String name;
    private final Map<String, String> texts;
    private final List<Call> log = new ArrayList<>();
    private final List<String> wrong = new ArrayList<>();
    private ClockRiver x = new ClockRiver();

    private Script(String name, Map<String, String> texts) {
        this.name = name;
        this.texts = texts;
    }

    /** What is wrong, nothing if all is as due. */
    static List<String> run(String name, List<String> lines, Map<String, String> texts) {
        Script script = new Script(name, texts);
        for (String line : lines) {
            try {
                script.line(line);
            } catch (RuntimeException e) {
                script.fail(line, e.toString());
            }
        }
        return script.wrong;
    }

    private void fail(String line, String why) {
        wrong.add(name + ": " + line + ": " + why);
    }

    private void need(String line, String what, long got, long due) {
        if (got != due) {
            fail(line, what + " " + got + ", due is " + due);
        }
    }

    private void line(String line) {
        Matcher each = EACH.matcher(line);
        Matcher times = TIMES.matcher(line);
        if (each.matches()) {
            for (String value : each.group(1).trim().split(" +")) {
                line(each.group(2).replace("$", value));
            }
        } else if (times.matches()) {
            for (int i = 0; i < Integer.parseInt(times.group(1)); i++) {
                line(times.group(2));
            }
        } else if (line.equals("new")) {
            log.clear();
            x = new ClockRiver();
        } else {
            Matcher outcome = OUTCOME.matcher(line);
            if (!outcome.matches()) {
                throw new IllegalArgumentException("no line");
            }
            act(line, outcome.group(1).trim(), outcome.group(2), outcome.group(3));
        }
    }

    private void act(String line, String what, String sign, String due) {
        if (what.startsWith("feed ")) {
            feed(text(what.substring(5)));
        } else if (what.startsWith("river ") || what.startsWith("weeks ")) {
            give(line, what.substring(0, 5), text(what.substring(6)), sign, due);
        } else {
            call(line, Call.of(what), sign, due);
        }
    }

    private void call(String line, Call call, String sign, String due) {
        boolean isRefused = "!".equals(sign);
        boolean tells = call.tellsFraction() && !isRefused;
        if (isRefused || call.asks() || tells) {
            // a FAULT leaves another tape, and is told
            mustStay(line, made(log, null), made(log, call), !tells, !(isRefused && "10".equals(due)));
        }
        if (call.hasStatus()) {
            // another STATUS than the one that is due, so that it is seen that the call leaves its own
            x.many(isRefused ? 0 : 13);
        }
        int statusAhead = x.status();
        long topAhead = x.top();
        long bottomAhead = x.bottom();
        long answer = call.on(x);
        log.add(call);
        if (isRefused) {
            need(line, "it answered", answer, call.no());
            need(line, "STATUS", x.status(), Integer.parseInt(due));
        } else {
            need(line, "STATUS", x.status(), call.hasStatus() ? 0 : statusAhead);
        }
        if (!tells) {
            need(line, "top", x.top(), topAhead);
            need(line, "bottom", x.bottom(), bottomAhead);
        }
        if (!isRefused && due != null) {
            answered(line, answer, due);
        }
    }

    private void answered(String line, long answer, String due) {
        int slash = due.indexOf('/');
        if (slash < 0) {
            need(line, "it answered", answer, number(due));
            return;
        }
        need(line, "it answered", answer, 1);
        need(line, "top", x.top(), Long.decode(due.substring(0, slash)));
        need(line, "bottom", x.bottom(), Long.decode(due.substring(slash + 1)));
    }

    private static long number(String due) {
        switch (due) {
            case "true":
                return 1;
            case "false":
                return 0;
            case "NONE":
                return -1;
            default:
                return Long.decode(due);
        }
    }

    /** A text with a caret is refused with the FAULT there. */
    private void give(String line, String which, String marked, String sign, String due) {
        int place = marked.indexOf('^');
        String bytes = marked.replace("^", "");
        List<Call> ahead = new ArrayList<>(log);
        feed(bytes);
        Call call = Call.of(which + "(" + bytes.length() + ")");
        if (!"!".equals(sign)) {
            call(line, call, sign, due);
            need(line, "fault(0)", x.fault(0), 0);
            need(line, "fault(1)", x.fault(1), -1);
            return;
        }
        mustStay(line, made(ahead, null), made(log, call), true, false);
        need(line, "feed() then answers", Call.of("feed(0,0,0,0,0)").on(made(log, call)), 20);
        need(line, "it answered", call.on(x), -1);
        log.add(call);
        need(line, "STATUS", x.status(), 10);
        need(line, "fault(0)", x.fault(0), Integer.parseInt(due));
        need(line, "fault(1)", x.fault(1), place);
    }

    private void feed(String bytes) {
        for (int i = 0; i < bytes.length(); i += 20) {
            int[] five = new int[5];
            for (int j = 0; j < 20; j++) {
                int b = i + j < bytes.length() ? bytes.charAt(i + j) & 255 : 32;
                five[j / 4] = five[j / 4] << 8 | b;
            }
            Call call = Call.of("feed(" + five[0] + "," + five[1] + "," + five[2] + "," + five[3] + "," + five[4]
                    + ")");
            if (call.on(x) < 0) {
                throw new IllegalArgumentException("the tape is full");
            }
            log.add(call);
        }
    }

    private static ClockRiver made(List<Call> calls, Call last) {
        ClockRiver twin = new ClockRiver();
        for (Call call : calls) {
            call.on(twin);
        }
        if (last != null) {
            last.on(twin);
        }
        return twin;
    }

    private void mustStay(String line, ClockRiver without, ClockRiver with, boolean withFraction, boolean withText) {
        List<String> due = Probe.of(without, withFraction, withText);
        List<String> got = Probe.of(with, withFraction, withText);
        for (int i = 0; i < due.size(); i++) {
            if (i >= got.size() || !due.get(i).equals(got.get(i))) {
                fail(line, "it changed what it must not: " + (i < got.size() ? got.get(i) : "nothing")
                        + ", due is " + due.get(i));
                return;
            }
        }
    }

    /** Texts joined by +, each as it stands or so many times (*n), or by its name in the file. */
    private String text(String given) {
        StringBuilder all = new StringBuilder();
        for (String part : given.split(" \\+ ")) {
            Matcher matcher = TEXT.matcher(part.trim());
            if (!matcher.matches()) {
                throw new IllegalArgumentException("no text: " + part);
            }
            if (matcher.group(3) != null) {
                all.append(texts.getOrDefault(matcher.group(3), "?"));
            } else {
                int times = matcher.group(2) == null ? 1 : Integer.parseInt(matcher.group(2));
                all.append(unescaped(matcher.group(1)).repeat(times));
            }
        }
        return all.toString();
    }

    /** A byte may stand as \ and two hexadecimal digits. */
    static String unescaped(String given) {
        StringBuilder all = new StringBuilder();
        for (int i = 0; i < given.length(); i++) {
            if (given.charAt(i) == '\\') {
                all.append((char) Integer.parseInt(given.substring(i + 1, i + 3), 16));
                i += 2;
            } else {
                all.append(given.charAt(i));
            }
        }
        return all.toString();
    }
}
