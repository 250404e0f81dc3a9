import java.lang.reflect.Method;
import java.util.Arrays;
import java.util.Random;

/** Runs of calls by chance (always the same ones): the class and the model answer alike. */
public final class RandomRunsTest {
    private static final int RUNS = 400;
    private static final int CALLS = 300;
    /** A text takes fifty calls at most, and no more than 512 are promised of an object. */
    private static final int MOST_CALLS = Runs.MOST_CALLS - 50;

    /** Of each argument the kind (s: switch, l: link, c: channel) or the least and the greatest. */
    private static final String[] ACTS = {
        "cut l", "cut l", "mend l", "mend l", "turn l", "orient s", "change s -1..21",
        "change s 0..3", "change s 0..3", "send s s", "send s s", "send s s", "send s s", "send s s",
        "steps 1..2", "steps 1..4", "steps -1..51", "undo", "undo", "redo", "image -1..2", "back -1..2",
    };

    private static final String[] QUESTIONS = {
        "node s -1..5", "link l -1..4", "length s s", "plain s s", "ways s s", "through s s c",
        "entry s s -1..2", "path s s -1..9", "load c", "heaviest -1..2", "pairs -1..4",
        "depends c c", "rings", "ring c", "plan s -1..2", "phase s l", "rooted s -1..3",
        "best -1..3", "without l -1..3", "dearest", "apart s s", "around s s l", "pivots",
        "game -1..10000 -1..61 -1..4", "game 0..9999 1..60 0..3", "packet -1..12 -1..5",
        "packet 0..4 0..4", "drains", "stuck", "about -1..12", "fault -1..2", "end -1..3",
    };

    private final int run;
    private final Random chance;
    private final TurnNet mine = new TurnNet();
    private final Model model = new Model();
    private int calls;
    private int wrong;

    private RandomRunsTest(int run) {
        this.run = run;
        this.chance = new Random(run);
    }

    public static void main(String[] args) throws Exception {
        int wrong = 0;
        int calls = 0;
        for (int run = 0; run < RUNS && wrong < 10; run++) {
            RandomRunsTest test = new RandomRunsTest(run);
            test.go();
            wrong += test.wrong;
            calls += test.calls;
        }
        System.out.println(calls + " calls by chance, " + wrong + " not answered as by the model");
        if (wrong != 0) {
            System.exit(1);
        }
    }

    private void go() throws Exception {
        int most = run % 2 == 0 ? 6 : 10;
        if (run % 20 != 0) {
            tell(Texts.net(chance, most));
        }
        for (int i = 0; i < CALLS && calls < MOST_CALLS && wrong < 10; i++) {
            if (chance.nextInt(80) == 0) {
                tell(chance.nextInt(4) == 0 ? Texts.net(chance, most) : Texts.broken(chance));
            } else if (chance.nextInt(3) == 0) {
                draw(ACTS);
            } else {
                draw(QUESTIONS);
            }
        }
    }

    private void draw(String[] from) throws Exception {
        String[] form = from[chance.nextInt(from.length)].split(" ");
        int[] a = new int[form.length - 1];
        for (int i = 0; i < a.length; i++) {
            a[i] = argument(form[i + 1]);
        }
        call(form[0], a);
    }

    private int argument(String kind) {
        if (chance.nextInt(100) == 0) {
            return chance.nextInt();
        }
        boolean edge = chance.nextInt(12) == 0;
        switch (kind) {
            case "s":
                return edge ? model.about(0) - chance.nextInt(2) * 11 : within(model.about(0));
            case "l":
                return edge ? model.about(1) - chance.nextInt(2) * 21 : within(model.about(1));
            case "c":
                return edge ? 2 * model.about(1) - chance.nextInt(2) * 41
                        : within(2 * model.about(1));
            default:
                int dots = kind.indexOf("..");
                int least = Integer.parseInt(kind.substring(0, dots));
                int greatest = Integer.parseInt(kind.substring(dots + 2));
                return least + chance.nextInt(greatest - least + 1);
        }
    }

    private int within(int n) {
        return n < 1 ? 0 : chance.nextInt(n);
    }

    private void tell(String text) throws Exception {
        call("end", 0);
        for (int[] row : Texts.rows(text)) {
            call("feed", row);
        }
        call("end", text.length());
        call("about", 11);
        call("net");
        call("fault", 0);
        call("fault", 1);
        call("about", 7);
        call("about", 8);
        call("about", 11);
    }

    private void call(String name, int... a) throws Exception {
        calls++;
        Class<?>[] types = new Class<?>[a.length];
        Arrays.fill(types, int.class);
        Object[] boxed = Arrays.stream(a).boxed().toArray();
        Method mineMethod = TurnNet.class.getMethod(name, types);
        Method modelMethod = Model.class.getDeclaredMethod(name, types);
        Object got = mineMethod.invoke(mine, boxed);
        Object want = modelMethod.invoke(model, boxed);
        if (!got.equals(want)) {
            wrong++;
            System.out.println("run " + run + ", call " + calls + ": " + name + Arrays.toString(a)
                    + " answered " + got + ", the model " + want);
        }
    }
}
