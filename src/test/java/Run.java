import java.lang.reflect.InvocationTargetException;
import java.lang.reflect.Method;
import java.util.HashMap;
import java.util.Map;

/** An object and the calls on it, written as in the document: "years(3) = 9", "send(0, 1) = STATE". */
final class Run {
    /** Three judges; three trust a year by the first, four by the second, nine or ten by the third. */
    static final String MANY = "l4,9;j6,1;j2,0;j9,1;t0,3;f1,5;s0,4;w2,2;b2,6;t1,1;";
    /** One house, one trust a year, nobody settles: out behind 2, 5 and 6 years. */
    static final String QUEUE = "l1,60;j0,0;t0,2;t0,3;s0,1;";

    private static final Map<String, Method> FACE = new HashMap<>();
    private static final Map<String, Long> NAMES = new HashMap<>();

    static {
        for (Method m : JudgeHalves.class.getDeclaredMethods()) {
            FACE.put(m.getName(), m);
        }
        NAMES.put("NONE", -1000000L);
        NAMES.put("BAD", -1000001L);
        NAMES.put("STATE", -1000002L);
        NAMES.put("FULL", -1000003L);
        NAMES.put("NULL", -1000011L);
        NAMES.put("PLACE", -1000012L);
        NAMES.put("KIND", -1000013L);
        NAMES.put("SIZE", -1000014L);
        NAMES.put("STORE", -1000015L);
        NAMES.put("MIN", (long) Integer.MIN_VALUE);
        NAMES.put("MAX", (long) Integer.MAX_VALUE);
    }

    private final JudgeHalves x = new JudgeHalves();

    static Run fresh() {
        return new Run();
    }

    /** An object with the circuit that a text tells. */
    static Run of(String text) {
        Run run = new Run().fed(text);
        Check.holds("the text " + text + " is a circuit", run.x.circuit() > 0);
        return run;
    }

    Run fed(String text) {
        Check.fed(x, text);
        return this;
    }

    /** A row of ints with these items. */
    Run told(int row, int... items) {
        Check.rowOf(x, row, items);
        return this;
    }

    /** Calls whose answers are not looked at, but that must not be refused. */
    Run does(String... calls) {
        for (String call : calls) {
            Check.holds(call + " is not refused", !isRefused(answer(call)));
        }
        return this;
    }

    Run says(String... rows) {
        for (String row : rows) {
            int sign = row.lastIndexOf('=');
            String call = row.substring(0, sign).trim();
            Check.due(call, answer(call), number(row.substring(sign + 1)));
        }
        return this;
    }

    long answer(String call) {
        int open = call.indexOf('(');
        String inner = call.substring(open + 1, call.lastIndexOf(')')).trim();
        String[] parts = inner.isEmpty() ? new String[0] : inner.split(",");
        Object[] arguments = new Object[parts.length];
        for (int i = 0; i < parts.length; i++) {
            arguments[i] = (int) number(parts[i]);
        }
        try {
            return ((Number) FACE.get(call.substring(0, open).trim()).invoke(x, arguments)).longValue();
        } catch (IllegalAccessException | InvocationTargetException e) {
            throw new IllegalStateException(call, e);
        }
    }

    static long number(String written) {
        String name = written.trim();
        return NAMES.containsKey(name) ? NAMES.get(name) : Long.parseLong(name);
    }

    static boolean isRefused(long answer) {
        return answer <= -1000001 && answer >= -1000015;
    }
}
