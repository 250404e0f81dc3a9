import java.util.ArrayList;
import java.util.Collections;
import java.util.List;
import java.util.Random;

/** Nets with many links, some cut and some turned over: all questions, the model's answers. */
public final class DenseNetsTest {
    private static final int NETS = 60;
    private static final Check CHECK = new Check();
    private final Model model = new Model();
    private final String name;
    private final List<String> acts = new ArrayList<>();
    private TurnNet mine;
    private int calls;

    private DenseNetsTest(String text) {
        name = text;
        for (int[] row : Texts.rows(text)) {
            model.feed(row[0], row[1], row[2], row[3], row[4]);
        }
        model.end(text.length());
        renew();
        same("switches", mine().about(0), model.net());
    }

    /** No more is promised of an object than 512 calls, so another one is brought as far. */
    private void renew() {
        mine = Runs.made(name);
        calls = Texts.rows(name).size() + 2 + acts.size();
        for (String act : acts) {
            Runs.call(mine, act);
        }
    }

    private TurnNet mine() {
        if (calls == Runs.MOST_CALLS) {
            renew();
        }
        calls++;
        return mine;
    }

    public static void main(String[] args) {
        for (int seed = 0; seed < NETS; seed++) {
            Random r = new Random(1000 + seed);
            DenseNetsTest test = new DenseNetsTest(text(r));
            test.disturb(r);
            test.askPairs();
            test.askChannels();
            test.askLinks();
            test.askRoots();
        }
        CHECK.close();
    }

    private static String text(Random r) {
        int n = 4 + r.nextInt(7);
        List<String> links = new ArrayList<>();
        for (int a = 0; a < n; a++) {
            for (int b = a + 1; b < n; b++) {
                links.add(r.nextBoolean() ? "link " + a + " " + b + ";" : "link " + b + " " + a + ";");
            }
        }
        Collections.shuffle(links, r);
        int least = Math.min(links.size(), n);
        int many = least + r.nextInt(Math.min(20, links.size()) - least + 1);
        String rank = r.nextInt(2) == 0 ? "" : "rank " + Texts.formula(r, 3) + ";";
        return "switches " + n + ";" + String.join("", links.subList(0, many)) + rank;
    }

    private void same(String what, long got, long want) {
        CHECK.due("'" + name + "' " + what, got, want);
    }

    private void disturb(Random r) {
        for (int i = r.nextInt(5); i > 0; i--) {
            int link = r.nextInt(model.about(1));
            if (r.nextInt(3) == 0) {
                same("cut " + link, mine().cut(link), model.cut(link));
                acts.add("cut " + link);
            } else {
                same("turn " + link, mine().turn(link), model.turn(link));
                acts.add("turn " + link);
            }
        }
    }

    private void askPairs() {
        for (int a = 0; a < model.about(0); a++) {
            for (int b = 0; b < model.about(0); b++) {
                String pair = a + " " + b;
                same("length " + pair, mine().length(a, b), model.length(a, b));
                same("plain " + pair, mine().plain(a, b), model.plain(a, b));
                same("ways " + pair, mine().ways(a, b), model.ways(a, b));
                same("apart " + pair, mine().apart(a, b), model.apart(a, b));
                same("entry 0 " + pair, mine().entry(a, b, 0), model.entry(a, b, 0));
                same("entry 1 " + pair, mine().entry(a, b, 1), model.entry(a, b, 1));
                for (int c = 0; c < 2 * model.about(1); c++) {
                    same("through " + pair + " " + c, mine().through(a, b, c), model.through(a, b, c));
                }
                for (int i = 0; i < 10; i++) {
                    same("path " + pair + " " + i, mine().path(a, b, i), model.path(a, b, i));
                }
            }
        }
        for (int what = 0; what < 4; what++) {
            same("pairs " + what, mine().pairs(what), model.pairs(what));
        }
        same("pivots", mine().pivots(), model.pivots());
    }

    private void askChannels() {
        for (int c = 0; c < 2 * model.about(1); c++) {
            same("load " + c, mine().load(c), model.load(c));
            same("ring " + c, mine().ring(c), model.ring(c));
            for (int d = 0; d < 2 * model.about(1); d++) {
                same("depends " + c + " " + d, mine().depends(c, d), model.depends(c, d));
            }
        }
        same("heaviest 0", mine().heaviest(0), model.heaviest(0));
        same("heaviest 1", mine().heaviest(1), model.heaviest(1));
        same("rings", mine().rings(), model.rings());
    }

    private void askLinks() {
        for (int l = 0; l < model.about(1); l++) {
            for (int what = 0; what < 4; what++) {
                same("link " + l + " " + what, mine().link(l, what), model.link(l, what));
                same("without " + l + " " + what, mine().without(l, what), model.without(l, what));
            }
            int a = l % model.about(0);
            for (int b = 0; b < model.about(0); b++) {
                same("around " + a + " " + b + " " + l, mine().around(a, b, l), model.around(a, b, l));
            }
        }
        same("dearest", mine().dearest(), model.dearest());
    }

    private void askRoots() {
        for (int root = 0; root < model.about(0); root++) {
            for (int what = 0; what < 3; what++) {
                same("rooted " + root + " " + what, mine().rooted(root, what), model.rooted(root, what));
                same("plan " + root + " " + what, mine().plan(root, what), model.plan(root, what));
            }
            for (int l = 0; l < model.about(1); l++) {
                same("phase " + root + " " + l, mine().phase(root, l), model.phase(root, l));
            }
            for (int what = 0; what < 5; what++) {
                same("node " + root + " " + what, mine().node(root, what), model.node(root, what));
            }
        }
        for (int what = 0; what < 3; what++) {
            same("best " + what, mine().best(what), model.best(what));
        }
    }
}
