/**
 * A net of switches and links with up and down ends, its lawful ways, its
 * tables, its rings, its changes of root and the packets that go through it.
 * What each method promises stands in the document, by its number.
 */
public final class TurnNet {
    public static final int NONE = -1;

    /** Where NONE could be mistaken for an answer, or says something else. */
    private static final int OTHERWISE = -2;

    private static final int MAX_BYTES = 800;
    private static final int BYTES_FED = 20;
    private static final int MAX_SWITCHES = 10;
    private static final int MAX_LINKS = 20;
    private static final int MAX_CHANNELS = 40;
    private static final int MAX_PACKETS = 12;
    private static final int MAX_ACTS = 20;
    private static final int MAX_BOXES = 2;
    private static final int STEPS_AHEAD = 200;
    private static final int NOT_REACHED = 10;

    /** One goal's places: each switch has one of STATE 0 and one of STATE 1. */
    private static final int ROW = 2 * MAX_SWITCHES;

    private final Net net = new Net();
    private final Reader reader = new Reader();
    private final Order order = new Order(net);
    private final Routes routes = new Routes(net);
    private final Routes guess = new Routes(net);
    private final Graph graph = new Graph(net);
    private final Turns turns = new Turns(net);
    private final Planner planner = new Planner(net, turns);
    private final Traffic traffic = new Traffic(net);
    private final History history = new History();
    private final State trial = new State();
    private final State[] boxes = new State[MAX_BOXES];
    private final boolean[] filled = new boolean[MAX_BOXES];
    private State now = new State();

    public TurnNet() {
        for (int box = 0; box < MAX_BOXES; box++) {
            boxes[box] = new State();
        }
    }

    // ---- the text ----

    public int feed(int a, int b, int c, int d, int e) {
        if (reader.size + BYTES_FED > MAX_BYTES) {
            return NONE;
        }
        reader.append(a);
        reader.append(b);
        reader.append(c);
        reader.append(d);
        reader.append(e);
        return reader.size;
    }

    public int end(int n) {
        if (n < 0 || n > reader.size) {
            return NONE;
        }
        reader.size = n;
        return n;
    }

    public int net() {
        boolean good = reader.readText();
        reader.size = 0;
        if (!good) {
            return NONE;
        }
        net.copyFrom(reader.draft);
        routes.forget();
        guess.forget();
        history.clear();
        for (int box = 0; box < MAX_BOXES; box++) {
            filled[box] = false;
        }
        int standing = net.allLinks();
        order.rate(net.root, standing);
        now.begin(net.root, order.upEnds(), standing);
        return net.switches;
    }

    public int fault(int what) {
        if (what == 0) {
            return reader.fault;
        }
        return what == 1 ? reader.faultPlace : NONE;
    }

    // ---- acts ----

    public int cut(int link) {
        if (!net.hasLink(link) || !now.stands(link)) {
            return NONE;
        }
        history.keep(now);
        now.standing = now.standing & ~(1 << link);
        return Integer.bitCount(now.standing);
    }

    public int mend(int link) {
        if (!net.hasLink(link) || now.stands(link)) {
            return NONE;
        }
        history.keep(now);
        now.standing = now.standing | 1 << link;
        return Integer.bitCount(now.standing);
    }

    public int turn(int link) {
        if (!net.hasLink(link)) {
            return NONE;
        }
        history.keep(now);
        now.up = now.up ^ 1 << link;
        return net.upEnd(link, now.up);
    }

    public int orient(int root) {
        if (!net.hasSwitch(root)) {
            return NONE;
        }
        history.keep(now);
        int up = upEndsBy(root);
        int turned = Integer.bitCount(up ^ now.up);
        now.up = up;
        now.root = root;
        return turned;
    }

    public int change(int root, int steps) {
        if (!net.hasSwitch(root) || steps < 0 || steps > 20) {
            return NONE;
        }
        planFor(root);
        if (planner.phases < 0) {
            return OTHERWISE;
        }
        history.keep(now);
        for (int phase = 0; phase < planner.phases; phase++) {
            now.up = now.up ^ planner.linksOf(phase);
            goSteps(now, steps);
        }
        now.root = root;
        return planner.phases;
    }

    public int send(int from, int to) {
        if (!net.hasSwitch(from) || !net.hasSwitch(to) || from == to || now.freePacket() == NONE) {
            return NONE;
        }
        history.keep(now);
        return now.put(from, to);
    }

    public int steps(int n) {
        if (net.switches == 0 || n < 1 || n > 50) {
            return NONE;
        }
        history.keep(now);
        return goSteps(now, n);
    }

    public boolean undo() {
        if (history.done == 0) {
            return false;
        }
        now = history.stepBack(now);
        return true;
    }

    public boolean redo() {
        if (history.undone == 0) {
            return false;
        }
        now = history.stepOn(now);
        return true;
    }

    // ---- what there is ----

    public int node(int node, int what) {
        if (!net.hasSwitch(node)) {
            return OTHERWISE;
        }
        order.rate(now.root, now.standing);
        switch (what) {
            case 0:
                return order.far[node];
            case 1:
                return order.rank[node];
            case 2:
                return order.degree[node];
            case 3:
                return order.countAbove(node);
            case 4:
                return now.countAt(node);
            default:
                return OTHERWISE;
        }
    }

    public int link(int link, int what) {
        if (!net.hasLink(link)) {
            return NONE;
        }
        switch (what) {
            case 0:
                return net.begin[2 * link];
            case 1:
                return net.finish[2 * link];
            case 2:
                return net.upEnd(link, now.up);
            case 3:
                return now.stands(link) ? 1 : 0;
            default:
                return NONE;
        }
    }

    // ---- ways ----

    public int length(int from, int to) {
        if (!net.hasSwitch(from) || !net.hasSwitch(to)) {
            return NONE;
        }
        routes.see(now.up, now.standing);
        return routes.hopsOf(from, to);
    }

    public int plain(int from, int to) {
        if (!net.hasSwitch(from) || !net.hasSwitch(to)) {
            return NONE;
        }
        graph.see(now.standing);
        return graph.hopsOf(from, to);
    }

    public long ways(int from, int to) {
        if (!net.hasSwitch(from) || !net.hasSwitch(to)) {
            return NONE;
        }
        routes.see(now.up, now.standing);
        return routes.countWays(from, to);
    }

    public long through(int from, int to, int channel) {
        if (!net.hasSwitch(from) || !net.hasSwitch(to) || !net.hasChannel(channel)) {
            return NONE;
        }
        routes.see(now.up, now.standing);
        return routes.countThrough(from, to, channel);
    }

    public int entry(int goal, int node, int state) {
        if (!net.hasSwitch(goal) || !net.hasSwitch(node) || state < 0 || state > 1) {
            return NONE;
        }
        routes.seeTable(now.up, now.standing);
        return routes.entryOf(goal, node, state);
    }

    public int path(int from, int to, int i) {
        if (!net.hasSwitch(from) || !net.hasSwitch(to) || i < 0) {
            return NONE;
        }
        routes.seeTable(now.up, now.standing);
        return routes.channelOnPath(from, to, i);
    }

    public int load(int channel) {
        if (!net.hasChannel(channel)) {
            return NONE;
        }
        routes.seeTable(now.up, now.standing);
        return routes.loads[channel];
    }

    public int heaviest(int what) {
        if (net.links == 0 || what < 0 || what > 1) {
            return NONE;
        }
        routes.seeTable(now.up, now.standing);
        int channel = routes.heaviestChannel();
        return what == 0 ? channel : routes.loads[channel];
    }

    public int pairs(int what) {
        routes.see(now.up, now.standing);
        switch (what) {
            case 0:
                return routes.pairsWithout();
            case 1:
                return routes.hopsTogether();
            case 2:
                graph.see(now.standing);
                return routes.hopsTogether() - hopsWhereWays();
            case 3:
                graph.see(now.standing);
                return graph.pairsWithout();
            default:
                return NONE;
        }
    }

    // ---- what depends on what ----

    public int depends(int channel, int other) {
        if (!net.hasChannel(channel) || !net.hasChannel(other)) {
            return NONE;
        }
        turns.take(now.up, now.up, now.standing);
        return turns.leads(channel, other) ? 1 : 0;
    }

    public int rings() {
        turns.take(now.up, now.up, now.standing);
        int count = 0;
        for (int channel = 0; channel < net.channels(); channel++) {
            if (turns.shortestRing(channel) != NONE) {
                count++;
            }
        }
        return count;
    }

    public int ring(int channel) {
        if (!net.hasChannel(channel)) {
            return NONE;
        }
        turns.take(now.up, now.up, now.standing);
        return turns.shortestRing(channel);
    }

    public int plan(int root, int what) {
        if (!net.hasSwitch(root) || what < 0 || what > 1) {
            return NONE;
        }
        planFor(root);
        return what == 0 ? planner.flips : planner.phases;
    }

    public int phase(int root, int link) {
        if (!net.hasSwitch(root) || !net.hasLink(link)) {
            return NONE;
        }
        planFor(root);
        return planner.phaseOf(link);
    }

    // ---- what would be ----

    public int rooted(int root, int what) {
        if (!net.hasSwitch(root) || what < 0 || what > 2) {
            return NONE;
        }
        return worthOf(root, what);
    }

    public int best(int what) {
        if (net.switches == 0 || what < 0 || what > 2) {
            return NONE;
        }
        int chosen = 0;
        int least = worthOf(0, what);
        for (int root = 1; root < net.switches; root++) {
            int worth = worthOf(root, what);
            if (worth < least) {
                least = worth;
                chosen = root;
            }
        }
        return chosen;
    }

    public int without(int link, int what) {
        if (!net.hasLink(link) || !now.stands(link)) {
            return NONE;
        }
        int standing = now.standing & ~(1 << link);
        if (what == 0) {
            return pairsWithoutWay(now.up, standing);
        }
        if (what != 1 && what != 2) {
            return NONE;
        }
        order.rate(now.root, standing);
        int up = order.upEnds();
        return what == 1 ? pairsWithoutWay(up, standing) : Integer.bitCount(up ^ now.up);
    }

    public int dearest() {
        int chosen = NONE;
        int most = NONE;
        for (int link = 0; link < net.links; link++) {
            if (now.stands(link)) {
                int cost = pairsWithoutWay(now.up, now.standing & ~(1 << link));
                if (cost > most) {
                    most = cost;
                    chosen = link;
                }
            }
        }
        return chosen;
    }

    public int apart(int from, int to) {
        if (!net.hasSwitch(from) || !net.hasSwitch(to) || from == to) {
            return NONE;
        }
        return graph.countApart(from, to, now.standing);
    }

    public int around(int from, int to, int link) {
        if (!net.hasSwitch(from) || !net.hasSwitch(to) || !net.hasLink(link) || !now.stands(link)) {
            return NONE;
        }
        guess.see(now.up, now.standing & ~(1 << link));
        return guess.hopsOf(from, to);
    }

    public int pivots() {
        return graph.findPivots(now.standing);
    }

    // ---- packets ----

    public int game(int seed, int n, int what) {
        if (net.switches == 0 || seed < 0 || seed > 9999 || n < 1 || n > 60) {
            return NONE;
        }
        if (what < 0 || what > 3) {
            return NONE;
        }
        trial.copyFrom(now);
        routes.seeTable(trial.up, trial.standing);
        traffic.startCount();
        int refused = traffic.play(trial, routes, seed, n);
        switch (what) {
            case 0:
                return trial.arrived - now.arrived;
            case 1:
                return trial.countPackets();
            case 2:
                return traffic.waits;
            default:
                return refused;
        }
    }

    public int packet(int packet, int what) {
        if (!now.hasPacket(packet)) {
            return OTHERWISE;
        }
        switch (what) {
            case 0:
                return now.at[packet];
            case 1:
                return now.goal[packet];
            case 2:
                return now.came[packet];
            case 3:
                return now.waited[packet];
            case 4:
                routes.seeTable(now.up, now.standing);
                return traffic.nextChannel(now, routes, packet);
            default:
                return OTHERWISE;
        }
    }

    public int drains() {
        trial.copyFrom(now);
        int taken = runEmpty();
        return trial.countPackets() == 0 ? taken : NONE;
    }

    public int stuck() {
        trial.copyFrom(now);
        runEmpty();
        int bits = 0;
        for (int packet = 0; packet < MAX_PACKETS; packet++) {
            if (trial.hasPacket(packet)) {
                bits = bits | 1 << packet;
            }
        }
        return bits;
    }

    // ---- boxes, and the rest ----

    public int image(int box) {
        if (box < 0 || box >= MAX_BOXES) {
            return NONE;
        }
        boxes[box].copyFrom(now);
        filled[box] = true;
        return now.countPackets();
    }

    public int back(int box) {
        if (box < 0 || box >= MAX_BOXES || !filled[box]) {
            return NONE;
        }
        now.copyFrom(boxes[box]);
        history.clear();
        return now.countPackets();
    }

    public int about(int what) {
        switch (what) {
            case 0:
                return net.switches;
            case 1:
                return net.links;
            case 2:
                return Integer.bitCount(now.standing);
            case 3:
                return net.switches == 0 ? NONE : now.root;
            case 4:
                return net.room;
            case 5:
                return now.countPackets();
            case 6:
                return now.arrived;
            case 7:
                return now.stepsEver;
            case 8:
                return net.units;
            case 9:
                return history.done;
            case 10:
                return history.undone;
            case 11:
                return reader.size;
            default:
                return NONE;
        }
    }

    // ---- what several calls need ----

    private int upEndsBy(int root) {
        order.rate(root, now.standing);
        return order.upEnds();
    }

    private void planFor(int root) {
        planner.lay(now.up, upEndsBy(root), now.standing);
    }

    private int goSteps(State state, int n) {
        routes.seeTable(state.up, state.standing);
        traffic.startCount();
        for (int i = 0; i < n; i++) {
            traffic.goStep(state, routes);
        }
        return traffic.moves;
    }

    /** Lets the trial's packets go on for as long as it can matter; answers the steps that took. */
    private int runEmpty() {
        routes.seeTable(trial.up, trial.standing);
        traffic.startCount();
        for (int step = 0; step < STEPS_AHEAD; step++) {
            int before = traffic.moves;
            if (trial.countPackets() == 0) {
                return step;
            }
            traffic.goStep(trial, routes);
            // Where nobody moves in a step, nobody ever will: all waits on what is so now.
            if (traffic.moves == before) {
                return STEPS_AHEAD;
            }
        }
        return STEPS_AHEAD;
    }

    private int worthOf(int root, int what) {
        int up = upEndsBy(root);
        if (what == 0) {
            return pairsWithoutWay(up, now.standing);
        }
        if (what == 1) {
            guess.see(up, now.standing);
            return guess.hopsTogether();
        }
        if (net.links == 0) {
            return 0;
        }
        guess.seeTable(up, now.standing);
        return guess.loads[guess.heaviestChannel()];
    }

    private int pairsWithoutWay(int up, int standing) {
        guess.see(up, standing);
        return guess.pairsWithout();
    }

    private int hopsWhereWays() {
        int sum = 0;
        for (int from = 0; from < net.switches; from++) {
            for (int to = 0; to < net.switches; to++) {
                if (routes.hopsOf(from, to) > 0) {
                    sum += graph.hopsOf(from, to);
                }
            }
        }
        return sum;
    }

    /** What a text tells. It stays until another text comes. */
    private static final class Net {
        static final int MAX_CODE = 80;
        int switches;
        int links;
        int root;
        int room = 1;
        int units;
        int codeSize;
        final int[] begin = new int[MAX_CHANNELS];
        final int[] finish = new int[MAX_CHANNELS];
        /** The channels from a switch stand in outList from outFrom[it] on, lowest first. */
        final int[] outFrom = new int[MAX_SWITCHES + 1];
        final int[] outList = new int[MAX_CHANNELS];
        /** The formula, operands ahead of what is done with them. */
        final int[] operations = new int[MAX_CODE];
        final int[] operands = new int[MAX_CODE];

        void clear() {
            switches = 0;
            links = 0;
            root = 0;
            room = 1;
            units = 0;
            codeSize = 0;
        }

        void copyFrom(Net other) {
            switches = other.switches;
            links = other.links;
            root = other.root;
            room = other.room;
            units = other.units;
            codeSize = other.codeSize;
            System.arraycopy(other.begin, 0, begin, 0, MAX_CHANNELS);
            System.arraycopy(other.finish, 0, finish, 0, MAX_CHANNELS);
            System.arraycopy(other.operations, 0, operations, 0, MAX_CODE);
            System.arraycopy(other.operands, 0, operands, 0, MAX_CODE);
            listChannels();
        }

        private void listChannels() {
            int place = 0;
            for (int node = 0; node < switches; node++) {
                outFrom[node] = place;
                for (int channel = 0; channel < channels(); channel++) {
                    if (begin[channel] == node) {
                        outList[place] = channel;
                        place++;
                    }
                }
            }
            outFrom[switches] = place;
        }

        void addLink(int first, int second) {
            int channel = 2 * links;
            begin[channel] = first;
            finish[channel] = second;
            begin[channel + 1] = second;
            finish[channel + 1] = first;
            links++;
        }

        boolean joins(int one, int other) {
            for (int channel = 0; channel < channels(); channel++) {
                if (begin[channel] == one && finish[channel] == other) {
                    return true;
                }
            }
            return false;
        }

        void addCode(int operation, int operand) {
            if (codeSize < MAX_CODE) {
                operations[codeSize] = operation;
                operands[codeSize] = operand;
                codeSize++;
            }
        }

        int channels() {
            return 2 * links;
        }

        int allLinks() {
            return (1 << links) - 1;
        }

        boolean hasSwitch(int node) {
            return node >= 0 && node < switches;
        }

        boolean hasLink(int link) {
            return link >= 0 && link < links;
        }

        boolean hasChannel(int channel) {
            return channel >= 0 && channel < channels();
        }

        /** Of each link a bit says whether its UP end is the one told second. */
        int upEnd(int link, int up) {
            return (up >> link & 1) == 1 ? finish[2 * link] : begin[2 * link];
        }

        static boolean isUp(int channel, int up) {
            return (up >> (channel >> 1) & 1) != (channel & 1);
        }
    }

    /** Keeps the tape and makes a net of it, or finds its first fault. */
    private static final class Reader {
        static final int TEXT_END = 0;
        static final int WORD = 1;
        static final int NUMBER = 2;
        static final int NO_TOKEN = 3;
        static final int MAX_UNITS = 40;
        static final int MAX_WITHIN = 5;
        /** Far above any number that may stand in a text, far below where an int wraps. */
        static final int TOO_GREAT = 100000;

        final byte[] tape = new byte[MAX_BYTES];
        int size;
        final Net draft = new Net();
        int fault;
        int faultPlace = NONE;
        private int ahead;
        private int place;
        /** TEXT_END, WORD, NUMBER, NO_TOKEN or, for a sign, its byte. */
        private int kind;
        private int value;
        private boolean rootTold;
        private boolean rankTold;
        private boolean roomTold;

        void append(int bytes) {
            for (int shift = 24; shift >= 0; shift -= 8) {
                if (size < MAX_BYTES) {
                    tape[size] = (byte) (bytes >> shift);
                    size++;
                }
            }
        }

        boolean readText() {
            draft.clear();
            fault = 0;
            faultPlace = NONE;
            ahead = 0;
            rootTold = false;
            rankTold = false;
            roomTold = false;
            advance();
            if (kind == TEXT_END) {
                return true;
            }
            if (!readSwitches()) {
                return false;
            }
            // A line takes three bytes or more, so there are fewer lines than bytes.
            for (int line = 0; line < MAX_BYTES && kind != TEXT_END; line++) {
                if (!readLine()) {
                    return false;
                }
            }
            return true;
        }

        private boolean fail(int which) {
            fault = which;
            faultPlace = place;
            return false;
        }

        private boolean readSwitches() {
            if (!isWord("switches")) {
                return fail(1);
            }
            if (!readNumber(2, MAX_SWITCHES)) {
                return false;
            }
            draft.switches = value;
            return closeLine();
        }

        private boolean readLine() {
            if (isWord("link")) {
                return readLink();
            }
            if (isWord("root") && !rootTold) {
                rootTold = true;
                if (!readNumber(0, draft.switches - 1)) {
                    return false;
                }
                draft.root = value;
                return closeLine();
            }
            if (isWord("room") && !roomTold) {
                roomTold = true;
                if (!readNumber(1, 3)) {
                    return false;
                }
                draft.room = value;
                return closeLine();
            }
            if (isWord("rank") && !rankTold) {
                rankTold = true;
                advance();
                return readSum(0) && readSign(';');
            }
            return fail(1);
        }

        private boolean readLink() {
            if (draft.links >= MAX_LINKS) {
                return fail(4);
            }
            if (!readNumber(0, draft.switches - 1)) {
                return false;
            }
            int first = value;
            if (!readNumber(0, draft.switches - 1)) {
                return false;
            }
            if (value == first) {
                return fail(2);
            }
            if (draft.joins(first, value)) {
                return fail(3);
            }
            draft.addLink(first, value);
            return closeLine();
        }

        private boolean closeLine() {
            advance();
            return readSign(';');
        }

        /** Stays on the number, so that what else is wrong with it is told at its place. */
        private boolean readNumber(int least, int most) {
            advance();
            if (kind != NUMBER) {
                return fail(1);
            }
            if (value < least || value > most) {
                return fail(2);
            }
            return true;
        }

        private boolean readSign(int sign) {
            if (kind != sign) {
                return fail(1);
            }
            advance();
            return true;
        }

        private boolean readSum(int within) {
            if (!readProduct(within)) {
                return false;
            }
            for (int i = 0; i < MAX_BYTES && (kind == '+' || kind == '-'); i++) {
                int sign = kind;
                advance();
                if (!readProduct(within)) {
                    return false;
                }
                draft.addCode(sign, 0);
            }
            return true;
        }

        private boolean readProduct(int within) {
            if (!readUnit(within)) {
                return false;
            }
            for (int i = 0; i < MAX_BYTES && (kind == '*' || kind == '/' || kind == '%'); i++) {
                int sign = kind;
                advance();
                if (!readUnit(within)) {
                    return false;
                }
                draft.addCode(sign, 0);
            }
            return true;
        }

        private boolean readUnit(int within) {
            int operation = unitKind();
            if (operation == Order.NO_UNIT) {
                return fail(1);
            }
            if (operation == Order.PUT_NUMBER && value > 999) {
                return fail(2);
            }
            if (draft.units >= MAX_UNITS || within > MAX_WITHIN) {
                return fail(4);
            }
            draft.units++;
            int operand = value;
            advance();
            if (operation == '(') {
                return readSum(within + 1) && readSign(')');
            }
            if (operation == Order.NEGATE && !readUnit(within + 1)) {
                return false;
            }
            draft.addCode(operation, operand);
            return true;
        }

        private int unitKind() {
            if (kind == NUMBER) {
                return Order.PUT_NUMBER;
            }
            if (kind == '(') {
                return '(';
            }
            if (kind == '-') {
                return Order.NEGATE;
            }
            if (isWord("far")) {
                return Order.PUT_FAR;
            }
            if (isWord("number")) {
                return Order.PUT_OWN_NUMBER;
            }
            return isWord("links") ? Order.PUT_DEGREE : Order.NO_UNIT;
        }

        private boolean isWord(String word) {
            if (kind != WORD || ahead - place != word.length()) {
                return false;
            }
            for (int i = 0; i < word.length(); i++) {
                if (tape[place + i] != word.charAt(i)) {
                    return false;
                }
            }
            return true;
        }

        /** The next token: its place, its kind, and its value if it is a number. */
        private void advance() {
            while (ahead < size && (tape[ahead] == 32 || tape[ahead] == 10)) {
                ahead++;
            }
            place = ahead;
            value = 0;
            if (ahead >= size) {
                kind = TEXT_END;
                return;
            }
            int sign = tape[ahead];
            ahead++;
            if (sign >= 'a' && sign <= 'z') {
                kind = WORD;
                while (ahead < size && tape[ahead] >= 'a' && tape[ahead] <= 'z') {
                    ahead++;
                }
            } else if (sign >= '0' && sign <= '9') {
                kind = NUMBER;
                value = sign - '0';
                while (ahead < size && tape[ahead] >= '0' && tape[ahead] <= '9') {
                    value = Math.min(10 * value + tape[ahead] - '0', TOO_GREAT);
                    ahead++;
                }
            } else {
                boolean known = sign == ';' || sign == '(' || sign == ')' || sign == '+'
                        || sign == '-' || sign == '*' || sign == '/' || sign == '%';
                kind = known ? sign : NO_TOKEN;
            }
        }
    }

    /** FAR and RANK of all switches, and which of two is ABOVE. */
    private static final class Order {
        /** What is done in a formula; the signs + * / % and the - between two stand for themselves. */
        static final int NO_UNIT = 0;
        static final int PUT_NUMBER = 1;
        static final int PUT_FAR = 2;
        static final int PUT_OWN_NUMBER = 3;
        static final int PUT_DEGREE = 4;
        static final int NEGATE = 5;

        private final Net net;
        final int[] far = new int[MAX_SWITCHES];
        final int[] degree = new int[MAX_SWITCHES];
        final int[] rank = new int[MAX_SWITCHES];
        private final int[] stack = new int[Net.MAX_CODE];

        Order(Net net) {
            this.net = net;
        }

        void rate(int root, int standing) {
            countLinks(standing);
            Graph.spread(net, standing, root, far, 0);
            for (int node = 0; node < net.switches; node++) {
                if (far[node] == NONE) {
                    far[node] = NOT_REACHED;
                }
                rank[node] = net.codeSize == 0 ? far[node] : evaluate(node);
            }
        }

        private void countLinks(int standing) {
            for (int node = 0; node < net.switches; node++) {
                degree[node] = 0;
            }
            for (int channel = 0; channel < net.channels(); channel++) {
                if ((standing >> (channel >> 1) & 1) == 1) {
                    degree[net.begin[channel]]++;
                }
            }
        }

        private int evaluate(int node) {
            int top = 0;
            for (int i = 0; i < net.codeSize; i++) {
                int operation = net.operations[i];
                if (operation == NEGATE) {
                    if (top >= 1) {
                        stack[top - 1] = -stack[top - 1];
                    }
                } else if (operation < NEGATE) {
                    if (top < stack.length) {
                        stack[top] = leaf(operation, net.operands[i], node);
                        top++;
                    }
                } else if (top >= 2) {
                    top--;
                    stack[top - 1] = combine(operation, stack[top - 1], stack[top]);
                }
            }
            return stack[0];
        }

        private int leaf(int operation, int operand, int node) {
            switch (operation) {
                case PUT_FAR:
                    return far[node];
                case PUT_OWN_NUMBER:
                    return node;
                case PUT_DEGREE:
                    return degree[node];
                default:
                    return operand;
            }
        }

        private static int combine(int sign, int left, int right) {
            switch (sign) {
                case '+':
                    return left + right;
                case '-':
                    return left - right;
                case '*':
                    return left * right;
                case '/':
                    return right == 0 ? 0 : left / right;
                default:
                    return right == 0 ? 0 : left % right;
            }
        }

        private boolean isAbove(int one, int other) {
            return rank[one] < rank[other] || rank[one] == rank[other] && one < other;
        }

        int countAbove(int node) {
            int count = 0;
            for (int other = 0; other < net.switches; other++) {
                if (isAbove(other, node)) {
                    count++;
                }
            }
            return count;
        }

        int upEnds() {
            int up = 0;
            for (int link = 0; link < net.links; link++) {
                if (isAbove(net.finish[2 * link], net.begin[2 * link])) {
                    up = up | 1 << link;
                }
            }
            return up;
        }
    }

    /** All that an act may change. */
    private static final class State {
        int root;
        int up;
        int standing;
        int arrived;
        int stepsEver;
        /** Where a packet is; NONE: it is not there. */
        final int[] at = new int[MAX_PACKETS];
        final int[] goal = new int[MAX_PACKETS];
        final int[] came = new int[MAX_PACKETS];
        final int[] waited = new int[MAX_PACKETS];

        State() {
            for (int packet = 0; packet < MAX_PACKETS; packet++) {
                at[packet] = NONE;
            }
        }

        /** For a new net. Steps that were done ever stay done. */
        void begin(int newRoot, int newUp, int newStanding) {
            root = newRoot;
            up = newUp;
            standing = newStanding;
            arrived = 0;
            for (int packet = 0; packet < MAX_PACKETS; packet++) {
                at[packet] = NONE;
            }
        }

        void copyFrom(State other) {
            root = other.root;
            up = other.up;
            standing = other.standing;
            arrived = other.arrived;
            stepsEver = other.stepsEver;
            System.arraycopy(other.at, 0, at, 0, MAX_PACKETS);
            System.arraycopy(other.goal, 0, goal, 0, MAX_PACKETS);
            System.arraycopy(other.came, 0, came, 0, MAX_PACKETS);
            System.arraycopy(other.waited, 0, waited, 0, MAX_PACKETS);
        }

        boolean stands(int link) {
            return (standing >> link & 1) == 1;
        }

        boolean hasPacket(int packet) {
            return packet >= 0 && packet < MAX_PACKETS && at[packet] != NONE;
        }

        int freePacket() {
            for (int packet = 0; packet < MAX_PACKETS; packet++) {
                if (at[packet] == NONE) {
                    return packet;
                }
            }
            return NONE;
        }

        int put(int from, int to) {
            int packet = freePacket();
            if (packet != NONE) {
                at[packet] = from;
                goal[packet] = to;
                came[packet] = NONE;
                waited[packet] = 0;
            }
            return packet;
        }

        int countPackets() {
            int count = 0;
            for (int packet = 0; packet < MAX_PACKETS; packet++) {
                if (at[packet] != NONE) {
                    count++;
                }
            }
            return count;
        }

        int countAt(int node) {
            int count = 0;
            for (int packet = 0; packet < MAX_PACKETS; packet++) {
                if (at[packet] == node) {
                    count++;
                }
            }
            return count;
        }

        int countCameBy(int channel) {
            int count = 0;
            for (int packet = 0; packet < MAX_PACKETS; packet++) {
                if (at[packet] != NONE && came[packet] == channel) {
                    count++;
                }
            }
            return count;
        }
    }

    /**
     * The acts that are kept, each as the state on its other side: ahead of it
     * while it is done, behind it while it is undone. The slots go round.
     */
    private static final class History {
        private final State[] slots = new State[MAX_ACTS];
        private int oldest;
        int done;
        int undone;

        History() {
            for (int slot = 0; slot < MAX_ACTS; slot++) {
                slots[slot] = new State();
            }
        }

        void clear() {
            done = 0;
            undone = 0;
        }

        void keep(State state) {
            if (done == MAX_ACTS) {
                oldest = (oldest + 1) % MAX_ACTS;
                done--;
            }
            slots[slotOf(done)].copyFrom(state);
            done++;
            undone = 0;
        }

        State stepBack(State state) {
            done--;
            undone++;
            return exchange(slotOf(done), state);
        }

        State stepOn(State state) {
            State next = exchange(slotOf(done), state);
            done++;
            undone--;
            return next;
        }

        private int slotOf(int act) {
            return (oldest + act) % MAX_ACTS;
        }

        private State exchange(int slot, State state) {
            State kept = slots[slot];
            slots[slot] = state;
            return kept;
        }
    }

    /** Links that stand, whichever end is up. */
    private static final class Graph {
        private final Net net;
        private final int[] hops = new int[MAX_SWITCHES * MAX_SWITCHES];
        private final int[] reached = new int[MAX_SWITCHES];
        private final int[] cameBy = new int[MAX_SWITCHES];
        /** What goes through a link from the end told first; below 0: the other way. */
        private final int[] flow = new int[MAX_LINKS];

        Graph(Net net) {
            this.net = net;
        }

        void see(int standing) {
            for (int from = 0; from < net.switches; from++) {
                spread(net, standing, from, hops, from * MAX_SWITCHES);
            }
        }

        int hopsOf(int from, int to) {
            return hops[from * MAX_SWITCHES + to];
        }

        int pairsWithout() {
            int count = 0;
            for (int from = 0; from < net.switches; from++) {
                for (int to = 0; to < net.switches; to++) {
                    if (hopsOf(from, to) == NONE) {
                        count++;
                    }
                }
            }
            return count;
        }

        /** How far each switch is from one, into a row that begins at a place. */
        static void spread(Net net, int standing, int from, int[] row, int place) {
            if (!net.hasSwitch(from)) {
                return;
            }
            for (int node = 0; node < net.switches; node++) {
                row[place + node] = NONE;
            }
            row[place + from] = 0;
            boolean grown = true;
            for (int level = 1; level < net.switches && grown; level++) {
                grown = false;
                for (int channel = 0; channel < net.channels(); channel++) {
                    int begin = place + net.begin[channel];
                    int finish = place + net.finish[channel];
                    if (row[begin] == level - 1 && row[finish] == NONE
                            && (standing >> (channel >> 1) & 1) == 1) {
                        row[finish] = level;
                        grown = true;
                    }
                }
            }
        }

        int findPivots(int standing) {
            see(standing);
            int bits = 0;
            for (int node = 0; node < net.switches; node++) {
                if (parts(node, standing)) {
                    bits = bits | 1 << node;
                }
            }
            return bits;
        }

        private boolean parts(int node, int standing) {
            int rest = standing;
            for (int link = 0; link < net.links; link++) {
                if (net.begin[2 * link] == node || net.finish[2 * link] == node) {
                    rest = rest & ~(1 << link);
                }
            }
            for (int from = 0; from < net.switches; from++) {
                if (from != node) {
                    spread(net, rest, from, reached, 0);
                    for (int to = 0; to < net.switches; to++) {
                        if (to != node && reached[to] == NONE && hopsOf(from, to) != NONE) {
                            return true;
                        }
                    }
                }
            }
            return false;
        }

        /** As many rows as a flow of one a link can be great. */
        int countApart(int from, int to, int standing) {
            for (int link = 0; link < net.links; link++) {
                flow[link] = 0;
            }
            int count = 0;
            for (int row = 0; row < MAX_LINKS && findRow(from, to, standing); row++) {
                useRow(from, to);
                count++;
            }
            return count;
        }

        private boolean findRow(int from, int to, int standing) {
            for (int node = 0; node < net.switches; node++) {
                cameBy[node] = NONE;
            }
            boolean grown = true;
            for (int level = 1; level < net.switches && grown; level++) {
                grown = false;
                for (int channel = 0; channel < net.channels(); channel++) {
                    int begin = net.begin[channel];
                    int finish = net.finish[channel];
                    if ((begin == from || cameBy[begin] != NONE) && finish != from
                            && cameBy[finish] == NONE && hasSpace(channel, standing)) {
                        cameBy[finish] = channel;
                        grown = true;
                    }
                }
            }
            return cameBy[to] != NONE;
        }

        private boolean hasSpace(int channel, int standing) {
            int link = channel >> 1;
            int used = (channel & 1) == 0 ? flow[link] : -flow[link];
            return (standing >> link & 1) == 1 && used < 1;
        }

        private void useRow(int from, int to) {
            int node = to;
            for (int i = 0; i < MAX_SWITCHES && node != from && cameBy[node] != NONE; i++) {
                int channel = cameBy[node];
                flow[channel >> 1] += (channel & 1) == 0 ? 1 : -1;
                node = net.begin[channel];
            }
        }
    }

    /** Shortest ways under one set of rules, the table that is made of them, and its loads. */
    private static final class Routes {
        private final Net net;
        private int up;
        private int standing;
        private boolean measured;
        private boolean tabled;
        /** By goal, switch, state: how many channels are still to go; NONE: no way. */
        private final int[] hops = new int[MAX_SWITCHES * ROW];
        private final int[] entries = new int[MAX_SWITCHES * ROW];
        private final int[] uses = new int[MAX_CHANNELS];
        final int[] loads = new int[MAX_CHANNELS];
        /** The state behind each channel. */
        private final int[] behind = new int[MAX_CHANNELS];
        private final long[] onward = new long[ROW];
        private final long[] arriving = new long[ROW];

        Routes(Net net) {
            this.net = net;
        }

        void forget() {
            measured = false;
            tabled = false;
        }

        void see(int newUp, int newStanding) {
            if (measured && up == newUp && standing == newStanding) {
                return;
            }
            up = newUp;
            standing = newStanding;
            for (int channel = 0; channel < net.channels(); channel++) {
                behind[channel] = Net.isUp(channel, up) ? 0 : 1;
            }
            for (int goal = 0; goal < net.switches; goal++) {
                measure(goal);
            }
            measured = true;
            tabled = false;
        }

        void seeTable(int newUp, int newStanding) {
            see(newUp, newStanding);
            if (!tabled) {
                fillTable();
                countLoads();
                tabled = true;
            }
        }

        private void measure(int goal) {
            int row = goal * ROW;
            for (int i = 0; i < ROW; i++) {
                hops[row + i] = NONE;
            }
            hops[row + 2 * goal] = 0;
            hops[row + 2 * goal + 1] = 0;
            boolean grown = true;
            for (int level = 1; level <= ROW && grown; level++) {
                grown = growLevel(row, level);
            }
        }

        private boolean growLevel(int row, int level) {
            boolean grown = false;
            for (int channel = 0; channel < net.channels(); channel++) {
                if (stands(channel)) {
                    int begin = row + 2 * net.begin[channel];
                    int finish = row + 2 * net.finish[channel];
                    if (behind[channel] == 0) {
                        grown = reach(begin, finish, level) || grown;
                    } else {
                        grown = reach(begin, finish + 1, level) || grown;
                        grown = reach(begin + 1, finish + 1, level) || grown;
                    }
                }
            }
            return grown;
        }

        private boolean reach(int place, int next, int level) {
            if (hops[place] != NONE || hops[next] != level - 1) {
                return false;
            }
            hops[place] = level;
            return true;
        }

        private boolean stands(int channel) {
            return (standing >> (channel >> 1) & 1) == 1;
        }

        /** Where in a row one stands who has gone through a channel. */
        private int placeBehind(int channel) {
            return 2 * net.finish[channel] + behind[channel];
        }

        int hopsOf(int from, int to) {
            return hops[to * ROW + 2 * from];
        }

        int pairsWithout() {
            int count = 0;
            for (int from = 0; from < net.switches; from++) {
                for (int to = 0; to < net.switches; to++) {
                    if (hopsOf(from, to) == NONE) {
                        count++;
                    }
                }
            }
            return count;
        }

        int hopsTogether() {
            int sum = 0;
            for (int from = 0; from < net.switches; from++) {
                for (int to = 0; to < net.switches; to++) {
                    sum += Math.max(hopsOf(from, to), 0);
                }
            }
            return sum;
        }

        /** Whether a shortest way goes on by a channel from where it begins, in a state. */
        private boolean leadsOn(int goal, int channel, int state) {
            if (!stands(channel) || state > behind[channel]) {
                return false;
            }
            int left = hops[goal * ROW + 2 * net.begin[channel] + state];
            int next = hops[goal * ROW + placeBehind(channel)];
            return left > 0 && next == left - 1;
        }

        private void fillTable() {
            for (int channel = 0; channel < net.channels(); channel++) {
                uses[channel] = 0;
            }
            for (int goal = 0; goal < net.switches; goal++) {
                for (int place = 0; place < 2 * net.switches; place++) {
                    // A goal's own places have nothing that leads on, so they stay empty.
                    int chosen = leastUsed(goal, place >> 1, place & 1);
                    entries[goal * ROW + place] = chosen;
                    if (chosen != NONE) {
                        uses[chosen]++;
                    }
                }
            }
        }

        private int leastUsed(int goal, int node, int state) {
            int chosen = NONE;
            for (int i = net.outFrom[node]; i < net.outFrom[node + 1]; i++) {
                int channel = net.outList[i];
                if (leadsOn(goal, channel, state)
                        && (chosen == NONE || uses[channel] < uses[chosen])) {
                    chosen = channel;
                }
            }
            return chosen;
        }

        int entryOf(int goal, int node, int state) {
            return entries[goal * ROW + 2 * node + state];
        }

        private void countLoads() {
            for (int channel = 0; channel < net.channels(); channel++) {
                loads[channel] = 0;
            }
            for (int from = 0; from < net.switches; from++) {
                for (int to = 0; to < net.switches; to++) {
                    countPath(from, to);
                }
            }
        }

        private void countPath(int from, int to) {
            int channel = entryOf(to, from, 0);
            for (int i = 0; i < ROW && channel != NONE; i++) {
                loads[channel]++;
                channel = entryBehind(to, channel);
            }
        }

        private int entryBehind(int goal, int channel) {
            return entries[goal * ROW + placeBehind(channel)];
        }

        int channelOnPath(int from, int to, int i) {
            int channel = entryOf(to, from, 0);
            for (int passed = 0; passed < i && passed < ROW && channel != NONE; passed++) {
                channel = entryBehind(to, channel);
            }
            return channel;
        }

        int heaviestChannel() {
            int chosen = 0;
            for (int channel = 1; channel < net.channels(); channel++) {
                if (loads[channel] > loads[chosen]) {
                    chosen = channel;
                }
            }
            return chosen;
        }

        long countWays(int from, int to) {
            countOnward(to);
            return onward[2 * from];
        }

        /** In how many shortest ways the goal is reached from each place. */
        private void countOnward(int goal) {
            for (int place = 0; place < ROW; place++) {
                onward[place] = hops[goal * ROW + place] == 0 ? 1 : 0;
            }
            for (int level = 1; level <= ROW; level++) {
                for (int place = 0; place < 2 * net.switches; place++) {
                    if (hops[goal * ROW + place] == level) {
                        addOnward(goal, place);
                    }
                }
            }
        }

        private void addOnward(int goal, int place) {
            int node = place >> 1;
            for (int i = net.outFrom[node]; i < net.outFrom[node + 1]; i++) {
                int channel = net.outList[i];
                if (leadsOn(goal, channel, place & 1)) {
                    onward[place] += onward[placeBehind(channel)];
                }
            }
        }

        /** In how many beginnings of shortest ways to a goal each place is come to. */
        private void countArriving(int from, int goal) {
            for (int place = 0; place < ROW; place++) {
                arriving[place] = 0;
            }
            arriving[2 * from] = 1;
            for (int level = ROW; level >= 1; level--) {
                for (int place = 0; place < 2 * net.switches; place++) {
                    if (hops[goal * ROW + place] == level && arriving[place] > 0) {
                        passArriving(goal, place);
                    }
                }
            }
        }

        private void passArriving(int goal, int place) {
            int node = place >> 1;
            for (int i = net.outFrom[node]; i < net.outFrom[node + 1]; i++) {
                int channel = net.outList[i];
                if (leadsOn(goal, channel, place & 1)) {
                    arriving[placeBehind(channel)] += arriving[place];
                }
            }
        }

        long countThrough(int from, int to, int channel) {
            countOnward(to);
            countArriving(from, to);
            long rest = onward[placeBehind(channel)];
            long count = 0;
            for (int state = 0; state <= 1; state++) {
                if (leadsOn(to, channel, state)) {
                    count += arriving[2 * net.begin[channel] + state] * rest;
                }
            }
            return count;
        }
    }

    /** Lawful turns, by one set of rules or by two together, as bits of channels. */
    private static final class Turns {
        private final Net net;
        private final long[] leaving = new long[MAX_SWITCHES];
        private final long[] onto = new long[MAX_CHANNELS];

        Turns(Net net) {
            this.net = net;
        }

        /** All turns that are lawful by one of two sets of rules. */
        void take(int up, int otherUp, int standing) {
            for (int node = 0; node < net.switches; node++) {
                leaving[node] = 0;
            }
            for (int channel = 0; channel < net.channels(); channel++) {
                if ((standing >> (channel >> 1) & 1) == 1) {
                    leaving[net.begin[channel]] |= 1L << channel;
                }
            }
            long ups = upChannels(up);
            long otherUps = upChannels(otherUp);
            for (int channel = 0; channel < net.channels(); channel++) {
                onto[channel] = (standing >> (channel >> 1) & 1) == 1
                        ? lawful(channel, ups) | lawful(channel, otherUps) : 0;
            }
        }

        private long upChannels(int up) {
            long bits = 0;
            for (int channel = 0; channel < net.channels(); channel++) {
                if (Net.isUp(channel, up)) {
                    bits |= 1L << channel;
                }
            }
            return bits;
        }

        private long lawful(int channel, long ups) {
            long next = leaving[net.finish[channel]] & ~(1L << (channel ^ 1));
            return (ups >> channel & 1) == 1 ? next : next & ~ups;
        }

        boolean leads(int channel, int other) {
            return (onto[channel] >> other & 1) == 1;
        }

        /** Takes away what leads nowhere, again and again: only what rings hold up is left. */
        boolean haveRing() {
            long left = (1L << net.channels()) - 1;
            boolean shrunk = true;
            for (int round = 0; round <= MAX_CHANNELS && shrunk; round++) {
                shrunk = false;
                for (int channel = 0; channel < net.channels(); channel++) {
                    if ((left >> channel & 1) == 1 && (onto[channel] & left) == 0) {
                        left &= ~(1L << channel);
                        shrunk = true;
                    }
                }
            }
            return left != 0;
        }

        int shortestRing(int channel) {
            long seen = 0;
            long front = onto[channel];
            for (int count = 1; count <= MAX_CHANNELS && front != 0; count++) {
                if ((front >> channel & 1) == 1) {
                    return count;
                }
                seen |= front;
                front = ontoFrom(front) & ~seen;
            }
            return NONE;
        }

        private long ontoFrom(long front) {
            long next = 0;
            for (int channel = 0; channel < net.channels(); channel++) {
                if ((front >> channel & 1) == 1) {
                    next |= onto[channel];
                }
            }
            return next;
        }
    }

    /** The plan by which one set of rules becomes another one. */
    private static final class Planner {
        private final Net net;
        private final Turns turns;
        private final int[] taken = new int[MAX_LINKS];
        int flips;
        /** OTHERWISE, if there is no plan. */
        int phases;

        Planner(Net net, Turns turns) {
            this.net = net;
            this.turns = turns;
        }

        void lay(int up, int newUp, int standing) {
            int left = up ^ newUp;
            int rules = up;
            flips = Integer.bitCount(left);
            phases = 0;
            for (int round = 0; round < MAX_LINKS && left != 0; round++) {
                int links = takeLinks(rules, left, standing);
                if (links == 0) {
                    phases = OTHERWISE;
                    return;
                }
                taken[phases] = links;
                phases++;
                rules = rules ^ links;
                left = left & ~links;
            }
        }

        private int takeLinks(int rules, int left, int standing) {
            int links = 0;
            for (int link = 0; link < net.links; link++) {
                if ((left >> link & 1) == 1) {
                    int more = links | 1 << link;
                    turns.take(rules, rules ^ more, standing);
                    if (!turns.haveRing()) {
                        links = more;
                    }
                }
            }
            return links;
        }

        int linksOf(int phase) {
            return phase >= 0 && phase < phases ? taken[phase] : 0;
        }

        int phaseOf(int link) {
            for (int phase = 0; phase < phases; phase++) {
                if ((taken[phase] >> link & 1) == 1) {
                    return phase;
                }
            }
            return NONE;
        }
    }

    /** Packets under way, by a table that is up to date. */
    private static final class Traffic {
        private final Net net;
        int moves;
        int waits;

        Traffic(Net net) {
            this.net = net;
        }

        void startCount() {
            moves = 0;
            waits = 0;
        }

        void goStep(State state, Routes routes) {
            for (int packet = 0; packet < MAX_PACKETS; packet++) {
                if (state.hasPacket(packet)) {
                    goOn(state, routes, packet);
                }
            }
            state.stepsEver++;
        }

        private void goOn(State state, Routes routes, int packet) {
            if (state.at[packet] == state.goal[packet]) {
                state.at[packet] = NONE;
                state.arrived++;
                moves++;
                return;
            }
            int channel = nextChannel(state, routes, packet);
            if (channel == NONE || state.countCameBy(channel) >= net.room) {
                state.waited[packet]++;
                waits++;
                return;
            }
            state.at[packet] = net.finish[channel];
            state.came[packet] = channel;
            moves++;
        }

        /** NONE at the goal, too: the table has no entry there. */
        int nextChannel(State state, Routes routes, int packet) {
            int came = state.came[packet];
            int layer = came != NONE && !Net.isUp(came, state.up) ? 1 : 0;
            return routes.entryOf(state.goal[packet], state.at[packet], layer);
        }

        /** Plays a game and answers how many packets could not be sent in it. */
        int play(State state, Routes routes, int seed, int n) {
            int refused = 0;
            int drawn = seed;
            for (int i = 0; i < n; i++) {
                drawn = draw(drawn);
                int from = drawn % Math.max(net.switches, 1);
                drawn = draw(drawn);
                int to = drawn % Math.max(net.switches, 1);
                if (from == to || state.put(from, to) == NONE) {
                    refused++;
                }
                goStep(state, routes);
            }
            return refused;
        }

        private static int draw(int drawn) {
            return (137 * drawn + 71) % 10007;
        }
    }
}
