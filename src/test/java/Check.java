/** What the tests share: answers held against what is due, and texts fed letter by letter. */
final class Check {
    static final int NONE = -1000000, BAD = -1000001, STATE = -1000002, FULL = -1000003;
    static final int NULL = -1000011, PLACE = -1000012, KIND = -1000013, SIZE = -1000014, STORE = -1000015;

    private static int wrong = 0, held = 0;
    private static String part = "";

    private Check() {
    }

    static void part(String name) {
        part = name;
    }

    static void due(String call, long got, long want) {
        held++;
        if (got != want) {
            wrong++;
            System.out.println(part + ": " + call + " answered " + got + ", due is " + want);
        }
    }

    static void holds(String what, boolean is) {
        due(what, is ? 1 : 0, 1);
    }

    static int wrong() {
        return wrong;
    }

    static int held() {
        return held;
    }

    static JudgeHalves fed(JudgeHalves x, String text) {
        for (int i = 0; i < text.length(); i++) {
            x.feed(text.charAt(i));
        }
        return x;
    }

    /** A new object with the circuit that a text tells. */
    static JudgeHalves of(String text) {
        JudgeHalves x = fed(new JudgeHalves(), text);
        if (x.circuit() < 0) {
            holds("the text " + text + " is a circuit", false);
        }
        return x;
    }

    static int rowOf(JudgeHalves x, int row, int... items) {
        x.row(row, 2, items.length);
        for (int i = 0; i < items.length; i++) {
            x.set(row, i, items[i]);
        }
        return row;
    }

    static void end() {
        System.out.println(held + " held, " + wrong + " wrong");
        if (wrong != 0 || held == 0) {
            System.exit(1);
        }
    }
}
