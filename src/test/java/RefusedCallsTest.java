import java.util.ArrayList;
import java.util.List;

/**
 * A call that is refused answers as it is due and changes nothing, and what is
 * only asked changes nothing either: all that can be seen of an object, taken
 * back, done again, brought back or read from the tape is the same as of a new
 * object on which the call was not made.
 */
public final class RefusedCallsTest {
    private static final Check CHECK = new Check();
    private static final String[] ASPECTS = {"sight", "undo", "redo", "box 0", "box 1", "text", "tape"};
    /** What a text with a fault does change: the fault, and the tape is empty. */
    private static final List<String> OF_TEXTS = List.of("text", "tape");
    /** So many questions are put to one object ahead of one look. */
    private static final int BATCH = 100;
    private static final String[] NUMBERS = {"least", "-1", "0", "1", "3", "4", "60", "most"};
    private static final String[] QUESTIONS = {"rings", "dearest", "pivots", "drains", "stuck",
        "fault .", "load .", "heaviest .", "pairs .", "ring .", "best .", "about .", "node . .",
        "link . .", "length . .", "plain . .", "ways . .", "depends . .", "plan . .", "phase . .",
        "rooted . .", "without . .", "apart . .", "packet . .", "through . . .", "entry . . .",
        "path . . .", "around . . .", "game . . ."};

    private static final String SQUARE = "switches 4;link 0 1;link 1 3;link 0 2;link 2 3;room 2;";
    private static final String BLANKS = "feed 538976288 538976288 538976288 538976288 538976288";
    private static final String SEVEN = "feed 1937205620 1667786099 540490528 538976288 538976288";

    /** What every state refuses: numbers that are too small or too large for any net. */
    private static final String[] NEVER = {"end -1 = -1", "end 801 = -1", "end least = -1",
        "end most = -1", "cut -1 = -1", "cut 20 = -1", "cut least = -1", "cut most = -1",
        "mend -1 = -1", "mend 20 = -1", "mend most = -1", "turn -1 = -1", "turn 20 = -1",
        "turn least = -1", "orient -1 = -1", "orient 10 = -1", "orient most = -1",
        "change -1 0 = -1", "change 10 0 = -1", "change 0 -1 = -1", "change 0 21 = -1",
        "change least most = -1", "send -1 0 = -1", "send 0 -1 = -1", "send 10 0 = -1",
        "send 0 10 = -1", "send 0 0 = -1", "send most least = -1", "steps 0 = -1", "steps 51 = -1",
        "steps -1 = -1", "steps most = -1", "image -1 = -1", "image 2 = -1", "image most = -1",
        "back -1 = -1", "back 2 = -1", "back least = -1"};

    private final String name;
    private final List<String> state;
    private TurnNet object;
    private int calls;

    private RefusedCallsTest(String name, List<String> state) {
        this.name = name;
        this.state = state;
    }

    public static void main(String[] args) {
        newObject();
        faultAndTape();
        withoutLinks();
        square();
        textsWithFaults();
        full();
        withoutPlan();
        CHECK.close();
    }

    private static void newObject() {
        look("a new object", List.of(), "end 1 = -1", "cut 0 = -1", "mend 0 = -1", "turn 0 = -1",
                "orient 0 = -1", "change 0 0 = -1", "send 0 1 = -1", "steps 1 = -1", "steps 50 = -1",
                "undo = 0", "redo = 0", "back 0 = -1", "back 1 = -1");
    }

    private static void faultAndTape() {
        look("a fault, a tape", List.of("tell switches 1;", SEVEN, "end 13"), "end 14 = -1",
                "end 20 = -1", "cut 0 = -1", "mend 0 = -1", "turn 0 = -1", "orient 0 = -1",
                "change 0 0 = -1", "send 0 1 = -1", "steps 1 = -1", "undo = 0", "redo = 0",
                "back 0 = -1", "back 1 = -1");
    }

    private static void withoutLinks() {
        look("no links", List.of("tell switches 3;root 1;rank number;", "send 0 1", "image 1",
                "steps 2", "orient 2"), "end 1 = -1", "cut 0 = -1", "mend 0 = -1", "turn 0 = -1",
                "orient 3 = -1", "change 3 0 = -1", "send 3 0 = -1", "send 0 3 = -1", "send 2 2 = -1",
                "redo = 0", "back 0 = -1");
    }

    private static void square() {
        look("a square", List.of("tell " + SQUARE, "send 0 3", "send 1 2", "steps 1", "image 0",
                "cut 1", "turn 3", "send 3 0", "orient 3", "steps 2", "undo", "undo", SEVEN, "end 11"),
                "end 12 = -1", "cut 1 = -1", "cut 4 = -1", "mend 0 = -1", "mend 4 = -1", "turn 4 = -1",
                "orient 4 = -1", "change 4 0 = -1", "change 3 21 = -1", "send 4 0 = -1",
                "send 0 4 = -1", "send 3 3 = -1", "back 1 = -1");
    }

    private static void textsWithFaults() {
        look("no tape", List.of("tell " + SQUARE + "rank far;", "send 0 3", "steps 1", "image 0", "cut 1",
                "image 1", "send 3 0", "turn 3", "undo"), "tell x = -1", "tell switches 1; = -1",
                "tell switches 5;link 0 1;rank 1+1;room 3;root 5; = -1",
                "tell switches 5;link 0 1;link 1 0; = -1", "tell switches 5;rank ------far; = -1",
                "tell switches 5;link 0 1 = -1", "end 1 = -1");
    }

    /** Twelve packets, twenty acts, eight hundred bytes; all is cut. */
    private static void full() {
        List<String> state = new ArrayList<>(List.of("tell " + SQUARE));
        for (int i = 0; i < 12; i++) {
            state.add("send " + i % 3 + " 3");
        }
        state.add("image 1");
        state.addAll(List.of("steps 1", "undo", "turn 0", "turn 1", "turn 0", "turn 1", "turn 2",
                "turn 2", "cut 0", "cut 1", "cut 2", "cut 3"));
        state.add(SEVEN);
        for (int i = 1; i < 40; i++) {
            state.add(BLANKS);
        }
        look("full", state, SEVEN + " = -1", BLANKS + " = -1", "feed 0 0 0 0 0 = -1", "cut 0 = -1",
                "cut 3 = -1", "send 0 1 = -1", "send 3 0 = -1", "redo = 0", "back 0 = -1");
    }

    private static void withoutPlan() {
        look("no plan", List.of("tell switches 4;link 0 2;link 1 0;link 3 2;link 1 2;", "send 3 0",
                "image 0", "turn 2", "turn 2", "turn 1", "undo"), "change 3 0 = -2", "change 3 20 = -2",
                "change 3 21 = -1", "mend 0 = -1", "back 1 = -1");
    }

    private static void look(String name, List<String> state, String... refused) {
        RefusedCallsTest test = new RefusedCallsTest(name, state);
        for (String aspect : ASPECTS) {
            List<Long> due = test.seen(aspect, List.of());
            for (String call : refused) {
                test.same(aspect, call, due);
            }
            for (String call : NEVER) {
                test.same(aspect, call, due);
            }
            test.sameBehindQuestions(aspect, due);
        }
    }

    private void same(String aspect, String call, List<Long> due) {
        if (!call.startsWith("tell ") || !OF_TEXTS.contains(aspect)) {
            hold(name + ", " + call + ": " + aspect, seen(aspect, List.of(call)).equals(due));
        }
    }

    private static void hold(String what, boolean holds) {
        CHECK.due(what, holds, true);
    }

    private void sameBehindQuestions(String aspect, List<Long> due) {
        List<String> all = new ArrayList<>();
        for (String form : QUESTIONS) {
            fill(form, all);
        }
        for (int from = 0; from < all.size(); from += BATCH) {
            List<String> batch = all.subList(from, Math.min(all.size(), from + BATCH));
            hold(name + ", asked from " + batch.get(0) + " on: " + aspect,
                    seen(aspect, batch).equals(due));
        }
    }

    private static void fill(String form, List<String> all) {
        int at = form.indexOf('.');
        if (at < 0) {
            all.add(form);
            return;
        }
        for (String number : NUMBERS) {
            fill(form.substring(0, at) + number + form.substring(at + 1), all);
        }
    }

    /** Makes the state on a new object, then the calls, then looks at one side of it. */
    private List<Long> seen(String aspect, List<String> more) {
        object = new TurnNet();
        calls = 0;
        for (String call : state) {
            ask(call);
        }
        for (String call : more) {
            int at = call.lastIndexOf(" = ");
            long got = ask(at < 0 ? call : call.substring(0, at));
            if (at >= 0) {
                CHECK.due(name + ", " + call, got, Long.parseLong(call.substring(at + 3)));
            }
        }
        List<Long> row = new ArrayList<>();
        switch (aspect) {
            case "undo":
                lookBack("undo", row);
                break;
            case "redo":
                lookBack("redo", row);
                break;
            case "box 0":
                row.add(ask("back 0"));
                lookAtAll(row);
                break;
            case "box 1":
                row.add(ask("back 1"));
                lookAtAll(row);
                break;
            case "text":
                put(row, "about 11", "fault 0", "fault 1");
                break;
            case "tape":
                put(row, "net", "fault 0", "fault 1");
                lookAtAll(row);
                break;
            default:
                lookAtAll(row);
        }
        hold(name + ": no more than 512 calls", calls <= Runs.MOST_CALLS);
        return row;
    }

    private long ask(String call) {
        calls += call.startsWith("tell ") ? Texts.rows(call.substring(5)).size() + 2 : 1;
        return Runs.call(object, call);
    }

    private void put(List<Long> row, String... questions) {
        for (String question : questions) {
            row.add(ask(question));
        }
    }

    /** All but the tape and the fault. */
    private void lookAtAll(List<Long> row) {
        for (int what = 0; what < 11; what++) {
            put(row, "about " + what);
        }
        int switches = (int) ask("about 0");
        int links = (int) ask("about 1");
        for (int node = 0; node < Math.min(switches, 4); node++) {
            for (int what = 0; what < 5; what++) {
                put(row, "node " + node + " " + what);
            }
            for (int goal = 0; goal < Math.min(switches, 4); goal++) {
                put(row, "entry " + goal + " " + node + " 0", "entry " + goal + " " + node + " 1");
            }
        }
        for (int link = 0; link < links; link++) {
            put(row, "link " + link + " 2", "link " + link + " 3", "load " + 2 * link);
        }
        for (int packet = 0; packet < 12; packet++) {
            for (int what = 0; what < 5; what++) {
                put(row, "packet " + packet + " " + what);
            }
        }
        put(row, "pairs 0", "pairs 1", "pairs 2", "pairs 3", "rings", "pivots", "drains", "stuck",
                "dearest", "heaviest 0", "heaviest 1");
    }

    /** Takes acts back, or does them again, as long as there are any; looks at each. */
    private void lookBack(String step, List<Long> row) {
        int links = (int) ask("about 1");
        for (int i = 0; i <= 20; i++) {
            put(row, step, "about 2", "about 3", "about 5", "about 6", "about 7", "about 9", "about 10",
                    "packet 0 0");
            for (int link = 0; link < links; link++) {
                put(row, "link " + link + " 2");
            }
        }
    }
}
