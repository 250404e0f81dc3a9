import java.util.ArrayDeque;
import java.util.ArrayList;
import java.util.Arrays;
import java.util.Collections;
import java.util.Deque;
import java.util.HashMap;
import java.util.List;
import java.util.Map;
import java.util.TreeMap;

/**
 * The document once more, told as plainly as can be and by other means than
 * the class: ways are listed one by one, rings are found by powers of a table,
 * rows apart by all cuts, faults by a pushdown list, acts by whole copies.
 */
final class Model {
    static final class Fault extends Exception {
        final int kind;
        final int place;

        Fault(int kind, int place) {
            this.kind = kind;
            this.place = place;
        }
    }

    record Token(char kind, String text, int place) { }

    static final class Packet {
        int at;
        int goal;
        int came = -1;
        int waited;

        Packet(int at, int goal) {
            this.at = at;
            this.goal = goal;
        }

        Packet copy() {
            Packet p = new Packet(at, goal);
            p.came = came;
            p.waited = waited;
            return p;
        }
    }

    static final class State {
        int root;
        int[] up = {};
        boolean[] stands = {};
        TreeMap<Integer, Packet> packets = new TreeMap<>();
        int arrived;
        int steps;

        State copy() {
            State s = new State();
            s.root = root;
            s.up = up.clone();
            s.stands = stands.clone();
            packets.forEach((k, p) -> s.packets.put(k, p.copy()));
            s.arrived = arrived;
            s.steps = steps;
            return s;
        }
    }

    private final List<Integer> tape = new ArrayList<>();
    private int fault;
    private int faultPlace = -1;
    private int switches;
    private List<int[]> links = new ArrayList<>();
    private int room = 1;
    private List<Token> formula = new ArrayList<>();
    private int units;
    private State now = new State();
    private final Deque<State> undo = new ArrayDeque<>();
    private final Deque<State> redo = new ArrayDeque<>();
    private final State[] boxes = new State[2];
    private final Map<String, int[][][]> tables = new HashMap<>();
    private final Map<String, List<List<Integer>>> walks = new HashMap<>();

    // ---- the text ----

    int feed(int a, int b, int c, int d, int e) {
        if (tape.size() > 780) {
            return -1;
        }
        for (int n : new int[] {a, b, c, d, e}) {
            tape.add(n >>> 24);
            tape.add(n >>> 16 & 255);
            tape.add(n >>> 8 & 255);
            tape.add(n & 255);
        }
        return tape.size();
    }

    int end(int n) {
        if (n < 0 || n > tape.size()) {
            return -1;
        }
        tape.subList(n, tape.size()).clear();
        return n;
    }

    int net() {
        StringBuilder text = new StringBuilder();
        tape.forEach(b -> text.append((char) (int) b));
        tape.clear();
        fault = 0;
        faultPlace = -1;
        Model told = new Model();
        try {
            told.read(text.toString());
        } catch (Fault f) {
            fault = f.kind;
            faultPlace = f.place;
            return -1;
        }
        switches = told.switches;
        links = told.links;
        room = told.room;
        formula = told.formula;
        units = told.units;
        int steps = now.steps;
        now = new State();
        now.steps = steps;
        now.root = told.now.root;
        now.stands = new boolean[links.size()];
        Arrays.fill(now.stands, true);
        now.up = oriented(now.root, now.stands);
        undo.clear();
        redo.clear();
        boxes[0] = null;
        boxes[1] = null;
        tables.clear();
        walks.clear();
        return switches;
    }

    private static List<Token> tokens(String text) {
        List<Token> list = new ArrayList<>();
        int i = 0;
        while (i < text.length()) {
            char c = text.charAt(i);
            int j = i + 1;
            if (c == ' ' || c == '\n') {
                i = j;
                continue;
            }
            char kind = '?';
            if (c >= 'a' && c <= 'z') {
                kind = 'w';
                while (j < text.length() && text.charAt(j) >= 'a' && text.charAt(j) <= 'z') {
                    j++;
                }
            } else if (c >= '0' && c <= '9') {
                kind = 'n';
                while (j < text.length() && text.charAt(j) >= '0' && text.charAt(j) <= '9') {
                    j++;
                }
            } else if (";()+-*/%".indexOf(c) >= 0) {
                kind = 's';
            }
            list.add(new Token(kind, text.substring(i, j), i));
            i = j;
        }
        list.add(new Token('e', "", text.length()));
        return list;
    }

    private static int number(Token t, int least, int most) throws Fault {
        if (t.kind != 'n') {
            throw new Fault(1, t.place);
        }
        java.math.BigInteger v = new java.math.BigInteger(t.text);
        if (v.compareTo(java.math.BigInteger.valueOf(least)) < 0
                || v.compareTo(java.math.BigInteger.valueOf(most)) > 0) {
            throw new Fault(2, t.place);
        }
        return v.intValue();
    }

    private static void sign(Token t, String s) throws Fault {
        if (t.kind != 's' || !t.text.equals(s)) {
            throw new Fault(1, t.place);
        }
    }

    private void read(String text) throws Fault {
        List<Token> list = tokens(text);
        List<String> told = new ArrayList<>();
        int i = 0;
        while (list.get(i).kind != 'e') {
            Token word = list.get(i++);
            boolean known = word.kind == 'w'
                    && List.of("switches", "link", "root", "rank", "room").contains(word.text);
            if (!known || told.isEmpty() != word.text.equals("switches")
                    || !word.text.equals("link") && told.contains(word.text)) {
                throw new Fault(1, word.place);
            }
            told.add(word.text);
            switch (word.text) {
                case "switches" -> switches = number(list.get(i++), 2, 10);
                case "root" -> now.root = number(list.get(i++), 0, switches - 1);
                case "room" -> room = number(list.get(i++), 1, 3);
                case "link" -> {
                    if (links.size() == 20) {
                        throw new Fault(4, word.place);
                    }
                    int a = number(list.get(i++), 0, switches - 1);
                    Token second = list.get(i++);
                    int b = number(second, 0, switches - 1);
                    if (a == b) {
                        throw new Fault(2, second.place);
                    }
                    for (int[] l : links) {
                        if (l[0] == a && l[1] == b || l[0] == b && l[1] == a) {
                            throw new Fault(3, second.place);
                        }
                    }
                    links.add(new int[] {a, b});
                }
                default -> i = readFormula(list, i);
            }
            sign(list.get(i++), ";");
        }
    }

    private int readFormula(List<Token> list, int from) throws Fault {
        Deque<String> open = new ArrayDeque<>();
        boolean operand = true;
        int i = from;
        while (true) {
            Token t = list.get(i);
            if (operand) {
                boolean leaf = t.kind == 'n' || t.kind == 'w'
                        && List.of("far", "number", "links").contains(t.text);
                boolean opens = t.kind == 's' && (t.text.equals("(") || t.text.equals("-"));
                if (!leaf && !opens) {
                    throw new Fault(1, t.place);
                }
                if (t.kind == 'n') {
                    number(t, 0, 999);
                }
                if (units == 40 || open.size() > 5) {
                    throw new Fault(4, t.place);
                }
                units++;
                if (opens) {
                    open.push(t.text);
                } else {
                    operand = false;
                }
            } else if (t.kind == 's' && "+-*/%".contains(t.text)) {
                operand = true;
            } else if (t.kind == 's' && t.text.equals(")") && open.contains("(")) {
                open.pop();
            } else if (open.contains("(")) {
                throw new Fault(1, t.place);
            } else {
                formula = new ArrayList<>(list.subList(from, i));
                return i;
            }
            while (!operand && !open.isEmpty() && open.peek().equals("-")) {
                open.pop();
            }
            i++;
        }
    }

    int fault(int what) {
        return what == 0 ? fault : what == 1 ? faultPlace : -1;
    }

    // ---- rank ----

    private int[] fars(int root, boolean[] stands) {
        int[] d = new int[switches];
        for (int v = 0; v < switches; v++) {
            int p = plain(root, v, stands);
            d[v] = p < 0 ? 10 : p;
        }
        return d;
    }

    private int degree(int node, boolean[] stands) {
        int n = 0;
        for (int l = 0; l < links.size(); l++) {
            if (stands[l] && (links.get(l)[0] == node || links.get(l)[1] == node)) {
                n++;
            }
        }
        return n;
    }

    private int rank(int node, int root, boolean[] stands) {
        int far = fars(root, stands)[node];
        if (formula.isEmpty()) {
            return far;
        }
        return new Sum(formula, far, node, degree(node, stands)).value();
    }

    /** Reckons a formula that is known to be without fault. */
    static final class Sum {
        private final List<Token> list;
        private final int far;
        private final int node;
        private final int degree;
        private int i;

        Sum(List<Token> list, int far, int node, int degree) {
            this.list = list;
            this.far = far;
            this.node = node;
            this.degree = degree;
        }

        private String peek() {
            return i < list.size() ? list.get(i).text : "";
        }

        int value() {
            long v = product();
            while (peek().equals("+") || peek().equals("-")) {
                String s = list.get(i++).text;
                long w = product();
                v = (int) (s.equals("+") ? v + w : v - w);
            }
            return (int) v;
        }

        private long product() {
            long v = unit();
            while (peek().equals("*") || peek().equals("/") || peek().equals("%")) {
                String s = list.get(i++).text;
                long w = unit();
                v = (int) (s.equals("*") ? v * w : w == 0 ? 0 : s.equals("/") ? v / w : v % w);
            }
            return v;
        }

        private long unit() {
            String s = list.get(i++).text;
            switch (s) {
                case "(" -> {
                    long v = value();
                    i++;
                    return v;
                }
                case "-" -> {
                    return (int) -unit();
                }
                case "far" -> {
                    return far;
                }
                case "number" -> {
                    return node;
                }
                case "links" -> {
                    return degree;
                }
                default -> {
                    return Integer.parseInt(s);
                }
            }
        }
    }

    private List<Integer> byRank(int root, boolean[] stands) {
        List<Integer> all = new ArrayList<>();
        Map<Integer, Integer> ranks = new HashMap<>();
        for (int v = 0; v < switches; v++) {
            all.add(v);
            ranks.put(v, rank(v, root, stands));
        }
        Collections.sort(all, (a, b) -> ranks.get(a).equals(ranks.get(b))
                ? Integer.compare(a, b) : Integer.compare(ranks.get(a), ranks.get(b)));
        return all;
    }

    private int[] oriented(int root, boolean[] stands) {
        List<Integer> all = byRank(root, stands);
        int[] up = new int[links.size()];
        for (int l = 0; l < up.length; l++) {
            int a = links.get(l)[0];
            int b = links.get(l)[1];
            up[l] = all.indexOf(a) < all.indexOf(b) ? a : b;
        }
        return up;
    }

    // ---- channels ----

    private boolean isSwitch(int v) {
        return v >= 0 && v < switches;
    }

    private boolean isLink(int l) {
        return l >= 0 && l < links.size();
    }

    private boolean isChannel(int c) {
        return c >= 0 && c < 2 * links.size();
    }

    private int from(int c) {
        return links.get(c / 2)[c % 2];
    }

    private int to(int c) {
        return links.get(c / 2)[1 - c % 2];
    }

    private boolean isUp(int c, int[] up) {
        return up[c / 2] == to(c);
    }

    private static boolean[] less(boolean[] stands, int link) {
        boolean[] s = stands.clone();
        s[link] = false;
        return s;
    }

    private static int differ(int[] a, int[] b) {
        int n = 0;
        for (int i = 0; i < a.length; i++) {
            n += a[i] != b[i] ? 1 : 0;
        }
        return n;
    }

    // ---- acts ----

    private void act() {
        undo.push(now.copy());
        while (undo.size() > 20) {
            undo.removeLast();
        }
        redo.clear();
    }

    private int standing() {
        int n = 0;
        for (boolean s : now.stands) {
            n += s ? 1 : 0;
        }
        return n;
    }

    int cut(int link) {
        if (!isLink(link) || !now.stands[link]) {
            return -1;
        }
        act();
        now.stands[link] = false;
        return standing();
    }

    int mend(int link) {
        if (!isLink(link) || now.stands[link]) {
            return -1;
        }
        act();
        now.stands[link] = true;
        return standing();
    }

    int turn(int link) {
        if (!isLink(link)) {
            return -1;
        }
        act();
        int[] l = links.get(link);
        now.up[link] = l[0] + l[1] - now.up[link];
        return now.up[link];
    }

    int orient(int root) {
        if (!isSwitch(root)) {
            return -1;
        }
        act();
        int[] up = oriented(root, now.stands);
        int n = differ(up, now.up);
        now.up = up;
        now.root = root;
        return n;
    }

    int change(int root, int steps) {
        if (!isSwitch(root) || steps < 0 || steps > 20) {
            return -1;
        }
        List<List<Integer>> phases = phases(root);
        if (phases == null) {
            return -2;
        }
        act();
        for (List<Integer> p : phases) {
            for (int l : p) {
                now.up[l] = links.get(l)[0] + links.get(l)[1] - now.up[l];
            }
            for (int i = 0; i < steps; i++) {
                step(now);
            }
        }
        now.root = root;
        return phases.size();
    }

    private static int lowest(State s) {
        int n = 0;
        while (s.packets.containsKey(n)) {
            n++;
        }
        return n;
    }

    int send(int from, int to) {
        if (!isSwitch(from) || !isSwitch(to) || from == to || now.packets.size() == 12) {
            return -1;
        }
        act();
        int n = lowest(now);
        now.packets.put(n, new Packet(from, to));
        return n;
    }

    int steps(int n) {
        if (switches == 0 || n < 1 || n > 50) {
            return -1;
        }
        act();
        int moved = 0;
        for (int i = 0; i < n; i++) {
            moved += step(now)[0];
        }
        return moved;
    }

    /** Moves and waits of a step. */
    private int[] step(State s) {
        s.steps++;
        int moved = 0;
        int waits = 0;
        for (int k : new ArrayList<>(s.packets.keySet())) {
            Packet p = s.packets.get(k);
            if (p.at == p.goal) {
                s.packets.remove(k);
                s.arrived++;
                moved++;
                continue;
            }
            int c = next(s, p);
            int there = 0;
            for (Packet q : s.packets.values()) {
                there += c >= 0 && q.at == to(c) && q.came == c ? 1 : 0;
            }
            if (c >= 0 && there < room) {
                p.at = to(c);
                p.came = c;
                moved++;
            } else {
                p.waited++;
                waits++;
            }
        }
        return new int[] {moved, waits};
    }

    private int next(State s, Packet p) {
        int layer = p.came >= 0 && !isUp(p.came, s.up) ? 1 : 0;
        return table(s.up, s.stands)[p.goal][p.at][layer];
    }

    boolean undo() {
        if (undo.isEmpty()) {
            return false;
        }
        redo.push(now);
        now = undo.pop();
        return true;
    }

    boolean redo() {
        if (redo.isEmpty()) {
            return false;
        }
        undo.push(now);
        now = redo.pop();
        return true;
    }

    // ---- what there is ----

    int node(int node, int what) {
        if (!isSwitch(node)) {
            return -2;
        }
        return switch (what) {
            case 0 -> fars(now.root, now.stands)[node];
            case 1 -> rank(node, now.root, now.stands);
            case 2 -> degree(node, now.stands);
            case 3 -> byRank(now.root, now.stands).indexOf(node);
            case 4 -> (int) now.packets.values().stream().filter(p -> p.at == node).count();
            default -> -2;
        };
    }

    int link(int link, int what) {
        if (!isLink(link)) {
            return -1;
        }
        return switch (what) {
            case 0 -> links.get(link)[0];
            case 1 -> links.get(link)[1];
            case 2 -> now.up[link];
            case 3 -> now.stands[link] ? 1 : 0;
            default -> -1;
        };
    }

    // ---- ways ----

    /** All shortest ways, each as its channels. */
    private List<List<Integer>> walks(int from, int state, int to, int[] up, boolean[] stands) {
        String key = from + "," + state + "," + to + Arrays.toString(up) + Arrays.toString(stands);
        return walks.computeIfAbsent(key, k -> listWalks(from, state, to, up, stands));
    }

    private List<List<Integer>> listWalks(int from, int state, int to, int[] up, boolean[] stands) {
        List<List<Integer>> front = new ArrayList<>();
        front.add(new ArrayList<>());
        while (!front.isEmpty()) {
            List<List<Integer>> there = new ArrayList<>();
            List<List<Integer>> longer = new ArrayList<>();
            for (List<Integer> w : front) {
                int last = w.isEmpty() ? -1 : w.get(w.size() - 1);
                int at = last < 0 ? from : to(last);
                if (at == to) {
                    there.add(w);
                    continue;
                }
                boolean downOnly = last < 0 ? state == 1 : state == 1 || !isUp(last, up);
                for (int c = 0; c < 2 * links.size(); c++) {
                    boolean old = to(c) == from;
                    for (int x : w) {
                        old = old || to(x) == to(c);
                    }
                    if (stands[c / 2] && from(c) == at && !old && !(downOnly && isUp(c, up))) {
                        List<Integer> more = new ArrayList<>(w);
                        more.add(c);
                        longer.add(more);
                    }
                }
            }
            if (!there.isEmpty()) {
                return there;
            }
            front = longer;
        }
        return List.of();
    }

    private int length(int from, int to, int[] up, boolean[] stands) {
        List<List<Integer>> w = walks(from, 0, to, up, stands);
        return w.isEmpty() ? -1 : w.get(0).size();
    }

    int length(int from, int to) {
        return isSwitch(from) && isSwitch(to) ? length(from, to, now.up, now.stands) : -1;
    }

    private int plain(int from, int to, boolean[] stands) {
        int far = 1000;
        int[][] d = new int[switches][switches];
        for (int[] row : d) {
            Arrays.fill(row, far);
        }
        for (int v = 0; v < switches; v++) {
            d[v][v] = 0;
        }
        for (int l = 0; l < links.size(); l++) {
            if (stands[l]) {
                d[links.get(l)[0]][links.get(l)[1]] = 1;
                d[links.get(l)[1]][links.get(l)[0]] = 1;
            }
        }
        for (int k = 0; k < switches; k++) {
            for (int a = 0; a < switches; a++) {
                for (int b = 0; b < switches; b++) {
                    d[a][b] = Math.min(d[a][b], d[a][k] + d[k][b]);
                }
            }
        }
        return d[from][to] >= far ? -1 : d[from][to];
    }

    int plain(int from, int to) {
        return isSwitch(from) && isSwitch(to) ? plain(from, to, now.stands) : -1;
    }

    long ways(int from, int to) {
        return isSwitch(from) && isSwitch(to) ? walks(from, 0, to, now.up, now.stands).size() : -1;
    }

    long through(int from, int to, int channel) {
        if (!isSwitch(from) || !isSwitch(to) || !isChannel(channel)) {
            return -1;
        }
        return walks(from, 0, to, now.up, now.stands).stream()
                .filter(w -> w.contains(channel)).count();
    }

    private int[][][] table(int[] up, boolean[] stands) {
        return tables.computeIfAbsent(Arrays.toString(up) + Arrays.toString(stands),
                k -> makeTable(up, stands));
    }

    private int[][][] makeTable(int[] up, boolean[] stands) {
        int[][][] t = new int[switches][switches][2];
        List<Integer> entries = new ArrayList<>();
        for (int goal = 0; goal < switches; goal++) {
            for (int node = 0; node < switches; node++) {
                for (int state = 0; state < 2; state++) {
                    int best = -1;
                    if (node != goal) {
                        for (List<Integer> w : walks(node, state, goal, up, stands)) {
                            int c = w.get(0);
                            int n = Collections.frequency(entries, c);
                            int m = best < 0 ? 0 : Collections.frequency(entries, best);
                            if (best < 0 || n < m || n == m && c < best) {
                                best = c;
                            }
                        }
                    }
                    t[goal][node][state] = best;
                    if (best >= 0) {
                        entries.add(best);
                    }
                }
            }
        }
        return t;
    }

    int entry(int goal, int node, int state) {
        if (!isSwitch(goal) || !isSwitch(node) || state < 0 || state > 1) {
            return -1;
        }
        return table(now.up, now.stands)[goal][node][state];
    }

    private List<Integer> path(int from, int to, int[] up, boolean[] stands) {
        List<Integer> p = new ArrayList<>();
        int at = from;
        int state = 0;
        while (at != to) {
            int c = table(up, stands)[to][at][state];
            if (c < 0) {
                return List.of();
            }
            p.add(c);
            at = to(c);
            state = isUp(c, up) ? state : 1;
        }
        return p;
    }

    int path(int from, int to, int i) {
        if (!isSwitch(from) || !isSwitch(to)) {
            return -1;
        }
        List<Integer> p = path(from, to, now.up, now.stands);
        return i >= 0 && i < p.size() ? p.get(i) : -1;
    }

    private int load(int channel, int[] up, boolean[] stands) {
        int n = 0;
        for (int a = 0; a < switches; a++) {
            for (int b = 0; b < switches; b++) {
                n += path(a, b, up, stands).contains(channel) ? 1 : 0;
            }
        }
        return n;
    }

    int load(int channel) {
        return isChannel(channel) ? load(channel, now.up, now.stands) : -1;
    }

    private int[] heaviest(int[] up, boolean[] stands) {
        int[] best = {-1, -1};
        for (int c = 0; c < 2 * links.size(); c++) {
            int n = load(c, up, stands);
            if (n > best[1]) {
                best = new int[] {c, n};
            }
        }
        return best;
    }

    int heaviest(int what) {
        return what == 0 || what == 1 ? heaviest(now.up, now.stands)[what] : -1;
    }

    private int[] pairs(int[] up, boolean[] stands) {
        int[] r = new int[4];
        for (int a = 0; a < switches; a++) {
            for (int b = 0; b < switches; b++) {
                int n = length(a, b, up, stands);
                int m = plain(a, b, stands);
                if (a == b) {
                    continue;
                }
                if (n < 0) {
                    r[0]++;
                } else {
                    r[1] += n;
                    r[2] += n - m;
                }
                if (n < 0 && m < 0) {
                    r[3]++;
                }
            }
        }
        return r;
    }

    int pairs(int what) {
        return what < 0 || what > 3 ? -1 : pairs(now.up, now.stands)[what];
    }

    // ---- rings ----

    private boolean lawful(int c, int d, int[] up, boolean[] stands) {
        return stands[c / 2] && stands[d / 2] && c / 2 != d / 2 && to(c) == from(d)
                && (isUp(c, up) || !isUp(d, up));
    }

    int depends(int channel, int other) {
        if (!isChannel(channel) || !isChannel(other)) {
            return -1;
        }
        return lawful(channel, other, now.up, now.stands) ? 1 : 0;
    }

    /** The fewest channels of a ring through each channel, by turns of either rules. */
    private int[] shortest(int[] up, int[] other, boolean[] stands) {
        int n = 2 * links.size();
        int far = 1000;
        int[][] d = new int[n][n];
        for (int a = 0; a < n; a++) {
            for (int b = 0; b < n; b++) {
                d[a][b] = lawful(a, b, up, stands) || lawful(a, b, other, stands) ? 1 : far;
            }
        }
        for (int k = 0; k < n; k++) {
            for (int a = 0; a < n; a++) {
                for (int b = 0; b < n; b++) {
                    d[a][b] = Math.min(d[a][b], d[a][k] + d[k][b]);
                }
            }
        }
        int[] r = new int[n];
        for (int a = 0; a < n; a++) {
            r[a] = d[a][a] >= far ? -1 : d[a][a];
        }
        return r;
    }

    int rings() {
        return (int) Arrays.stream(shortest(now.up, now.up, now.stands)).filter(x -> x > 0).count();
    }

    int ring(int channel) {
        return isChannel(channel) ? shortest(now.up, now.up, now.stands)[channel] : -1;
    }

    private List<List<Integer>> phases(int root) {
        int[] goal = oriented(root, now.stands);
        int[] rules = now.up.clone();
        List<List<Integer>> phases = new ArrayList<>();
        while (differ(rules, goal) > 0) {
            int[] with = rules.clone();
            List<Integer> taken = new ArrayList<>();
            for (int l = 0; l < goal.length; l++) {
                if (rules[l] != goal[l]) {
                    with[l] = goal[l];
                    if (Arrays.stream(shortest(rules, with, now.stands)).allMatch(x -> x < 0)) {
                        taken.add(l);
                    } else {
                        with[l] = rules[l];
                    }
                }
            }
            if (taken.isEmpty()) {
                return null;
            }
            phases.add(taken);
            rules = with;
        }
        return phases;
    }

    int plan(int root, int what) {
        if (!isSwitch(root) || what < 0 || what > 1) {
            return -1;
        }
        if (what == 0) {
            return differ(now.up, oriented(root, now.stands));
        }
        List<List<Integer>> p = phases(root);
        return p == null ? -2 : p.size();
    }

    int phase(int root, int link) {
        if (!isSwitch(root) || !isLink(link)) {
            return -1;
        }
        List<List<Integer>> p = phases(root);
        for (int i = 0; p != null && i < p.size(); i++) {
            if (p.get(i).contains(link)) {
                return i;
            }
        }
        return -1;
    }

    // ---- what would be ----

    int rooted(int root, int what) {
        if (!isSwitch(root) || what < 0 || what > 2) {
            return -1;
        }
        int[] up = oriented(root, now.stands);
        return what < 2 ? pairs(up, now.stands)[what] : Math.max(0, heaviest(up, now.stands)[1]);
    }

    int best(int what) {
        int best = -1;
        for (int r = 0; r < switches && what >= 0 && what <= 2; r++) {
            if (best < 0 || rooted(r, what) < rooted(best, what)) {
                best = r;
            }
        }
        return best;
    }

    int without(int link, int what) {
        if (!isLink(link) || !now.stands[link] || what < 0 || what > 2) {
            return -1;
        }
        boolean[] stands = less(now.stands, link);
        if (what == 0) {
            return pairs(now.up, stands)[0];
        }
        int[] up = oriented(now.root, stands);
        return what == 1 ? pairs(up, stands)[0] : differ(up, now.up);
    }

    int dearest() {
        int best = -1;
        for (int l = 0; l < links.size(); l++) {
            if (now.stands[l] && (best < 0 || without(l, 0) > without(best, 0))) {
                best = l;
            }
        }
        return best;
    }

    /** The fewest links between a set of switches with the one and the rest with the other. */
    int apart(int from, int to) {
        if (!isSwitch(from) || !isSwitch(to) || from == to) {
            return -1;
        }
        int least = 1000;
        for (int set = 0; set < 1 << switches; set++) {
            if ((set >> from & 1) == 1 && (set >> to & 1) == 0) {
                int n = 0;
                for (int l = 0; l < links.size(); l++) {
                    int[] e = links.get(l);
                    n += now.stands[l] && (set >> e[0] & 1) != (set >> e[1] & 1) ? 1 : 0;
                }
                least = Math.min(least, n);
            }
        }
        return least;
    }

    int around(int from, int to, int link) {
        if (!isSwitch(from) || !isSwitch(to) || !isLink(link) || !now.stands[link]) {
            return -1;
        }
        return length(from, to, now.up, less(now.stands, link));
    }

    int pivots() {
        int bits = 0;
        for (int v = 0; v < switches; v++) {
            boolean[] stands = now.stands.clone();
            for (int l = 0; l < stands.length; l++) {
                stands[l] = stands[l] && links.get(l)[0] != v && links.get(l)[1] != v;
            }
            for (int a = 0; a < switches; a++) {
                for (int b = 0; b < switches; b++) {
                    if (a != v && b != v && plain(a, b, now.stands) > 0 && plain(a, b, stands) < 0) {
                        bits |= 1 << v;
                    }
                }
            }
        }
        return bits;
    }

    // ---- packets ----

    int game(int seed, int n, int what) {
        if (switches == 0 || seed < 0 || seed > 9999 || n < 1 || n > 60 || what < 0 || what > 3) {
            return -1;
        }
        State s = now.copy();
        int waits = 0;
        int refused = 0;
        long x = seed;
        for (int i = 0; i < n; i++) {
            x = (137 * x + 71) % 10007;
            int from = (int) (x % switches);
            x = (137 * x + 71) % 10007;
            int to = (int) (x % switches);
            if (from == to || s.packets.size() == 12) {
                refused++;
            } else {
                s.packets.put(lowest(s), new Packet(from, to));
            }
            waits += step(s)[1];
        }
        return new int[] {s.arrived - now.arrived, s.packets.size(), waits, refused}[what];
    }

    int packet(int packet, int what) {
        Packet p = now.packets.get(packet);
        if (p == null) {
            return -2;
        }
        return switch (what) {
            case 0 -> p.at;
            case 1 -> p.goal;
            case 2 -> p.came;
            case 3 -> p.waited;
            case 4 -> p.at == p.goal ? -1 : next(now, p);
            default -> -2;
        };
    }

    int drains() {
        State s = now.copy();
        for (int i = 0; i <= 200; i++) {
            if (s.packets.isEmpty()) {
                return i;
            }
            step(s);
        }
        return -1;
    }

    int stuck() {
        State s = now.copy();
        for (int i = 0; i < 200; i++) {
            step(s);
        }
        int bits = 0;
        for (int k : s.packets.keySet()) {
            bits |= 1 << k;
        }
        return bits;
    }

    // ---- the rest ----

    int image(int box) {
        if (box != 0 && box != 1) {
            return -1;
        }
        boxes[box] = now.copy();
        return now.packets.size();
    }

    int back(int box) {
        if (box != 0 && box != 1 || boxes[box] == null) {
            return -1;
        }
        now = boxes[box].copy();
        undo.clear();
        redo.clear();
        return now.packets.size();
    }

    int about(int what) {
        int[] all = {switches, links.size(), standing(), switches == 0 ? -1 : now.root, room,
            now.packets.size(), now.arrived, now.steps, units, undo.size(), redo.size(),
            tape.size()};
        return what >= 0 && what < all.length ? all[what] : -1;
    }
}
