import java.lang.reflect.InvocationTargetException;
import java.lang.reflect.Method;
import java.lang.reflect.Modifier;
import java.util.ArrayList;
import java.util.Comparator;
import java.util.List;
import java.util.Random;

/** Calls with wild arguments in every state: none throws, and one that is refused changes nothing. */
public final class WildTest {
    private static final int[] ENDS = {Integer.MIN_VALUE, Integer.MIN_VALUE + 1, -1000, -999, -61, -1, 0, 1, 2, 3, 4,
        5, 6, 7, 12, 13, 16, 20, 24, 40, 48, 60, 61, 99, 100, 168, 300, 500, 501, 900, 999, 1000, 9980, 9999, 10000,
        65536, Integer.MAX_VALUE - 1, Integer.MAX_VALUE};
    private static final String[] RIVERS = {"", "turns 60;", "winder w strength 40;",
        "reach a bank 0 gate 0;mill m at a needs 1;", "turns 33;slack 0;rain 99;odds 16;"
            + "reach a bank 999 gate 99 holds 999;reach b bank 10 gate 3 holds 9;reach c bank 1 gate 99;"
            + "mill m at a needs 1;mill n at b needs 2;mill o at c needs 99;"
            + "winder u strength 40 wage 0;winder v strength 1 wage 99;"};
    private static final String[] WEEKS = {"", "oil;", "any;hour 24;", "loop 99;loop 99;hour 24;any;end;end;",
        "when raining;hour 3;end;stop;", "wind w;", "gate a 3;wind v back;when ground m<50;hour 9;end;"};

    public static void main(String[] args) throws IllegalAccessException {
        List<Method> calls = new ArrayList<>();
        for (Method m : ClockRiver.class.getDeclaredMethods()) {
            if (Modifier.isPublic(m.getModifiers())) {
                calls.add(m);
            }
        }
        calls.sort(Comparator.comparing(Method::getName));
        Check check = new Check();
        check.due("public methods", calls.size(), 53);
        Random draws = new Random(7);
        for (int run = 0; run < 1500; run++) {
            ClockRiver x = new ClockRiver();
            for (int i = 0; i < 400; i++) {
                if (i % 40 == 0) {
                    Check.river(x, RIVERS[draws.nextInt(RIVERS.length)]);
                } else if (i % 10 == 0) {
                    Check.weeks(x, WEEKS[draws.nextInt(WEEKS.length)]);
                }
                one(check, x, calls.get(draws.nextInt(calls.size())), draws);
            }
        }
        check.end("WildTest");
    }

    private static void one(Check check, ClockRiver x, Method m, Random draws) throws IllegalAccessException {
        Object[] given = new Object[m.getParameterCount()];
        for (int i = 0; i < given.length; i++) {
            Class<?> type = m.getParameterTypes()[i];
            int v = draws.nextInt(3) == 0 ? ENDS[draws.nextInt(ENDS.length)] : draws.nextInt(5);
            given[i] = type == boolean.class ? (Object) (v % 2 == 0) : type == long.class ? (Object) (long) v : v;
        }
        long before = figures(x);
        try {
            Object answer = m.invoke(x, given);
            boolean hasStatus = !List.of("status", "fault", "feed", "top", "bottom").contains(m.getName());
            if (hasStatus && x.status() != 0) {
                boolean isNo = answer instanceof Boolean b ? !b : ((Number) answer).longValue() == -1;
                check.due(m.getName() + " refused gives NONE or false", isNo, true);
                check.due(m.getName() + " refused changes nothing", figures(x), before);
            }
        } catch (InvocationTargetException e) {
            e.getCause().printStackTrace(System.out);
            check.due(m.getName() + java.util.Arrays.toString(given) + " threw " + e.getCause(), false, true);
        }
    }

    /** All that can be told of an object but STATUS, as one number. */
    private static long figures(ClockRiver x) {
        long sum = x.top() * 31 + x.bottom();
        for (int i = 0; i < 13; i++) {
            sum = sum * 31 + x.many(i);
            sum = sum * 31 + x.water(i);
            sum = sum * 31 + x.lived(i);
            for (int j = 0; j < 7; j++) {
                sum = sum * 31 + x.reach(j, i);
                sum = sum * 31 + x.mill(j, i);
                sum = sum * 31 + x.winder(j, i);
                sum = sum * 31 + x.read(j, i);
            }
        }
        sum = sum * 31 + x.turnsLeft();
        return sum;
    }
}
