import java.lang.reflect.InvocationTargetException;
import java.lang.reflect.Method;
import java.util.HashMap;
import java.util.Map;

/**
 * Runs of calls on new objects, told as text: "cut 1" makes the call,
 * "cut 1 = 3" looks at its answer, too (a boolean counts 1 or 0), and
 * "tell .." puts a text on the tape and makes it the net.
 */
final class Runs {
    /** What is promised of an object ends with this call. */
    static final int MOST_CALLS = 512;

    private static final Map<String, Method> FACE = new HashMap<>();

    static {
        for (Method m : TurnNet.class.getDeclaredMethods()) {
            if (java.lang.reflect.Modifier.isPublic(m.getModifiers())) {
                FACE.put(m.getName(), m);
            }
        }
    }

    private final Check check = new Check();
    private String sentence = "";

    /** The document's words that the rows behind are about, the promise's number ahead. */
    void sentence(String words) {
        sentence = words;
    }

    void due(String what, long got, long want) {
        check.due(sentence + " | " + what, got, want);
    }

    void close() {
        check.close();
    }

    /** A run on a new object; a text that is null is not told. */
    TurnNet run(String text, String... calls) {
        TurnNet x = made(text);
        go(x, calls);
        return x;
    }

    static TurnNet made(String text) {
        TurnNet x = new TurnNet();
        if (text != null) {
            Texts.tell(x, text);
        }
        return x;
    }

    void go(TurnNet x, String... calls) {
        for (String row : calls) {
            int at = row.lastIndexOf(" = ");
            if (at < 0) {
                call(x, row);
            } else {
                String call = row.substring(0, at);
                due(call, call(x, call), Long.parseLong(row.substring(at + 3)));
            }
        }
    }

    static long call(TurnNet x, String call) {
        if (call.startsWith("tell ")) {
            return Texts.tell(x, call.substring(5));
        }
        String[] parts = call.split(" ");
        Method m = FACE.get(parts[0]);
        if (m == null || m.getParameterCount() != parts.length - 1) {
            throw new IllegalArgumentException("no such call: " + call);
        }
        Object[] arguments = new Object[parts.length - 1];
        for (int i = 0; i < arguments.length; i++) {
            arguments[i] = number(parts[i + 1]);
        }
        return answer(x, m, arguments);
    }

    private static int number(String text) {
        switch (text) {
            case "least":
                return Integer.MIN_VALUE;
            case "most":
                return Integer.MAX_VALUE;
            default:
                return Integer.parseInt(text);
        }
    }

    private static long answer(TurnNet x, Method m, Object[] arguments) {
        try {
            Object got = m.invoke(x, arguments);
            if (got instanceof Boolean b) {
                return b ? 1 : 0;
            }
            return ((Number) got).longValue();
        } catch (IllegalAccessException | InvocationTargetException e) {
            throw new IllegalStateException(m.getName() + " threw", e);
        }
    }

    /** A text without a fault. */
    void good(String text, int switches) {
        TurnNet x = new TurnNet();
        due("net of '" + text + "'", Texts.tell(x, text), switches);
        due("fault(0) of '" + text + "'", x.fault(0), 0);
        due("fault(1) of '" + text + "'", x.fault(1), -1);
    }

    /** A text with a fault at the place that ^ marks, which is not of the text. */
    void bad(String marked, int fault) {
        int place = marked.indexOf('^');
        String text = marked.substring(0, place) + marked.substring(place + 1);
        TurnNet x = new TurnNet();
        due("net of '" + marked + "'", Texts.tell(x, text), -1);
        due("fault(0) of '" + marked + "'", x.fault(0), fault);
        due("fault(1) of '" + marked + "'", x.fault(1), place);
        due("no switches by '" + marked + "'", x.about(0), 0);
        due("the tape behind '" + marked + "'", x.about(11), 0);
    }
}
