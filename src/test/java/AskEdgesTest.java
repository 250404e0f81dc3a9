/** The boundaries of what is asked of a net: promises 15 to 37. */
public final class AskEdgesTest {
    private static final Runs RUNS = new Runs();
    private static final String BARE = "switches 3;";
    private static final String TWO = "switches 2;link 0 1;";
    private static final String LINE = "switches 3;link 0 1;link 1 2;";
    private static final String SQUARE = "switches 4;link 0 1;link 1 3;link 0 2;link 2 3;";
    private static final String TRIANGLE = "switches 3;link 0 1;link 1 2;link 0 2;";
    private static final String FIVE = "switches 5;link 0 1;link 1 2;link 2 3;link 3 4;link 4 0;";
    private static final String LATE = "switches 4;link 0 2;link 1 0;link 3 2;link 1 2;";
    private static final String THREE_PHASES = "switches 6;link 2 4;link 1 0;link 1 4;link 3 5;"
            + "link 0 3;link 3 4;link 2 5;";
    private static final String TEN = "switches 10;link 0 1;link 1 2;link 2 3;link 3 4;link 4 5;"
            + "link 5 6;link 6 7;link 7 8;link 8 9;";
    /** 0, then two and two and two and two that are all joined, then 9. */
    private static final String LAYERS = "switches 10;link 0 1;link 0 2;link 1 3;link 1 4;link 2 3;"
            + "link 2 4;link 3 5;link 3 6;link 4 5;link 4 6;link 5 7;link 5 8;link 6 7;link 6 8;"
            + "link 7 9;link 8 9;";

    public static void main(String[] args) {
        node();
        link();
        length();
        plain();
        ways();
        through();
        entry();
        path();
        load();
        heaviest();
        pairs();
        depends();
        rings();
        ring();
        twentyLinksInRings();
        plan();
        phase();
        rooted();
        best();
        without();
        dearest();
        apart();
        around();
        pivots();
        RUNS.close();
    }

    private static void node() {
        RUNS.sentence("15 -2 if there is none such");
        RUNS.run(SQUARE, "node 0 0 = 0", "node 3 0 = 2", "node 4 0 = -2", "node -1 0 = -2",
                "node 10 1 = -2", "node most 2 = -2", "node least 3 = -2", "node 4 5 = -2");
        RUNS.run("switches 10;", "node 9 0 = 10", "node 10 0 = -2");
        RUNS.run(null, "node 0 0 = -2", "node 0 1 = -2", "node 0 4 = -2");
        RUNS.sentence("15 -2 for another what");
        RUNS.run(SQUARE, "node 0 4 = 0", "node 0 5 = -2", "node 0 -1 = -2", "node 0 most = -2",
                "node 0 least = -2");
        RUNS.sentence("15 (RANK may be anything)");
        RUNS.run(LINE + "rank -1;", "node 0 1 = -1");
        RUNS.run(LINE + "rank -2;", "node 0 1 = -2", "node 2 1 = -2");
        RUNS.sentence("15 2: how many LINKS that STAND it has, 3: how many SWITCHES are ABOVE it");
        RUNS.run(TEN, "node 0 2 = 1", "node 1 2 = 2", "node 0 3 = 0", "node 9 3 = 9", "cut 0",
                "node 0 2 = 0", "node 1 2 = 1");
        RUNS.sentence("15 4: PACKETS that are there");
        RUNS.run(LINE, "node 0 4 = 0", "send 0 2", "node 0 4 = 1", "send 0 1", "node 0 4 = 2",
                "steps 1", "node 0 4 = 1", "node 1 4 = 1", "steps 1", "node 1 4 = 1", "node 2 4 = 1",
                "steps 1", "node 1 4 = 0", "node 2 4 = 0");
    }

    private static void link() {
        RUNS.sentence("16 NONE if there is none such");
        RUNS.run(SQUARE, "link 0 0 = 0", "link 3 1 = 3", "link 4 0 = -1", "link -1 0 = -1",
                "link 32 2 = -1", "link most 3 = -1", "link least 3 = -1");
        RUNS.run(BARE, "link 0 0 = -1", "link 0 3 = -1");
        RUNS.run(null, "link 0 0 = -1");
        RUNS.sentence("16 NONE for another what");
        RUNS.run(SQUARE, "link 3 3 = 1", "link 3 4 = -1", "link 3 -1 = -1", "link 3 most = -1",
                "link 3 least = -1");
        RUNS.sentence("16 3: 1 if it STANDS, else 0; the ends are told though it is CUT");
        RUNS.run(SQUARE, "cut 3", "link 3 0 = 2", "link 3 1 = 3", "link 3 2 = 2", "link 3 3 = 0");
    }

    private static void length() {
        RUNS.sentence("17 LENGTH (0 to itself)");
        RUNS.run(TEN, "length 9 9 = 0", "length 0 1 = 1", "length 0 9 = 9", "length 9 0 = 9");
        RUNS.run(BARE, "length 2 2 = 0");
        RUNS.sentence("17 NONE if there is no WAY");
        RUNS.run(SQUARE, "length 1 2 = 2", "cut 0", "length 1 2 = -1", "length 2 1 = -1",
                "length 1 3 = 1", "length 1 1 = 0");
        RUNS.run(BARE, "length 0 1 = -1");
        RUNS.sentence("17 NONE if there are no such SWITCHES");
        RUNS.run(SQUARE, "length 3 0 = 2", "length 4 0 = -1", "length 0 4 = -1", "length 4 4 = -1",
                "length -1 -1 = -1", "length -1 0 = -1", "length 0 -1 = -1", "length most 0 = -1",
                "length 0 least = -1");
        RUNS.run(null, "length 0 0 = -1");
        RUNS.sentence("Terms: no UP one behind a DOWN one");
        RUNS.run(FIVE, "length 2 4 = 3", "length 4 2 = 3", "length 2 3 = 1", "length 3 2 = 1");
        RUNS.run(LINE, "length 0 2 = 2", "turn 0", "length 0 2 = 2", "turn 1", "length 0 2 = 2",
                "turn 0", "length 0 2 = -1", "length 2 0 = -1", "length 0 1 = 1");
    }

    private static void plain() {
        RUNS.sentence("18 the fewest CHANNELS that STAND, lawful or not (0 to itself)");
        RUNS.run(FIVE, "plain 2 4 = 2", "plain 4 2 = 2", "plain 3 3 = 0", "cut 2", "plain 2 4 = 3",
                "cut 0", "plain 2 4 = -1", "plain 2 1 = 1");
        RUNS.run(TEN, "plain 0 9 = 9", "plain 9 0 = 9");
        RUNS.run(BARE, "plain 1 1 = 0", "plain 0 1 = -1");
        RUNS.sentence("18 NONE if there are no such SWITCHES");
        RUNS.run(SQUARE, "plain 3 0 = 2", "plain 4 0 = -1", "plain 0 4 = -1", "plain 4 4 = -1",
                "plain -1 -1 = -1", "plain most 0 = -1", "plain 0 least = -1");
        RUNS.run(null, "plain 0 0 = -1");
    }

    private static void ways() {
        RUNS.sentence("19 how many shortest WAYS there are (1 to itself)");
        RUNS.run(LAYERS, "ways 0 9 = 16", "ways 9 0 = 16", "ways 5 5 = 1", "ways 3 4 = 2",
                "ways 1 2 = 1", "ways 0 1 = 1", "cut 6", "ways 0 9 = 12", "ways 3 9 = 2");
        RUNS.run(BARE, "ways 2 2 = 1");
        RUNS.sentence("19 0 if there is no WAY");
        RUNS.run(SQUARE, "ways 1 2 = 1", "cut 0", "ways 1 2 = 0", "ways 1 1 = 1");
        RUNS.run(BARE, "ways 0 1 = 0");
        RUNS.sentence("19 NONE if there are no such SWITCHES");
        RUNS.run(SQUARE, "ways 3 0 = 2", "ways 4 0 = -1", "ways 0 4 = -1", "ways 4 4 = -1",
                "ways -1 -1 = -1", "ways most 0 = -1", "ways 0 least = -1");
        RUNS.run(null, "ways 0 0 = -1");
    }

    private static void through() {
        RUNS.sentence("20 how many of these go through a CHANNEL");
        RUNS.run(LAYERS, "through 0 9 0 = 8", "through 0 9 1 = 0", "through 0 9 4 = 4",
                "through 0 9 28 = 8", "through 9 0 29 = 8", "through 9 0 28 = 0", "through 9 0 31 = 8",
                "through 5 5 10 = 0", "cut 6", "through 0 9 12 = 0", "through 0 9 14 = 4");
        RUNS.sentence("20 NONE if there is no such CHANNEL");
        RUNS.run(SQUARE, "through 0 3 7 = 0", "through 0 3 6 = 1", "through 0 3 8 = -1",
                "through 0 3 -1 = -1", "through 0 3 40 = -1", "through 0 3 most = -1",
                "through 0 3 least = -1", "through 2 2 8 = -1", "cut 3", "through 0 3 6 = 0");
        RUNS.run(BARE, "through 0 1 0 = -1", "through 0 0 0 = -1");
        RUNS.sentence("20 NONE if there are no such SWITCHES");
        RUNS.run(SQUARE, "through 3 0 7 = 1", "through 4 0 7 = -1", "through 0 4 7 = -1",
                "through -1 0 7 = -1", "through 0 -1 7 = -1", "through 4 4 0 = -1",
                "through most 0 0 = -1", "through 0 least 0 = -1");
        RUNS.run(null, "through 0 0 0 = -1");
        RUNS.sentence("20 none go there, if there is no WAY, or it is to itself");
        RUNS.run(SQUARE, "cut 0", "through 1 2 2 = 0", "through 1 2 0 = 0", "through 1 1 2 = 0");
    }

    private static void entry() {
        RUNS.sentence("21 the TABLE's entry for a goal, a SWITCH, a STATE (0, 1)");
        RUNS.run(SQUARE, "entry 3 0 0 = 0", "entry 3 0 1 = 4", "entry 0 3 0 = 3", "entry 3 2 1 = 6");
        RUNS.sentence("21 NONE if there is none");
        RUNS.run(SQUARE, "entry 3 3 0 = -1", "entry 3 3 1 = -1", "entry 0 0 0 = -1",
                "entry 0 1 0 = 1", "entry 0 1 1 = -1", "cut 0", "entry 2 1 0 = -1", "entry 3 1 0 = 2");
        RUNS.run(BARE, "entry 0 1 0 = -1");
        RUNS.sentence("21 NONE if there is none such");
        RUNS.run(SQUARE, "entry 3 0 2 = -1", "entry 3 0 -1 = -1", "entry 3 0 most = -1",
                "entry 4 0 0 = -1", "entry -1 0 0 = -1", "entry 0 4 0 = -1", "entry 0 -1 0 = -1",
                "entry most 0 0 = -1", "entry 0 least 0 = -1");
        RUNS.run(null, "entry 0 0 0 = -1");
        RUNS.sentence("Terms: that one which stands in fewest of the entries so far, of like ones the least");
        RUNS.run(SQUARE, "entry 0 3 0 = 3", "entry 1 3 0 = 3", "entry 2 3 0 = 7", "entry 3 0 0 = 0",
                "entry 3 0 1 = 4");
        RUNS.run("switches 4;link 2 3;link 0 2;link 1 3;link 0 1;", "entry 3 0 0 = 2",
                "entry 0 3 0 = 1");
    }

    private static void path() {
        RUNS.sentence("22 the i-th CHANNEL (0 ..) of a PATH; NONE if there is none such");
        RUNS.run(TEN, "path 0 9 0 = 0", "path 0 9 8 = 16", "path 0 9 9 = -1", "path 0 9 -1 = -1",
                "path 0 9 most = -1", "path 0 9 least = -1", "path 9 0 0 = 17", "path 9 0 8 = 1",
                "path 9 0 9 = -1", "path 4 4 0 = -1", "path 10 0 0 = -1", "path 0 10 0 = -1",
                "path -1 0 0 = -1", "path 0 -1 0 = -1", "path most 0 0 = -1", "path 0 least 0 = -1",
                "cut 8", "path 0 9 0 = -1", "path 0 8 7 = 14");
        RUNS.run(null, "path 0 0 0 = -1");
        RUNS.sentence("Terms: CHANNEL: 2 times its number from the end told first, 1 more the other way");
        RUNS.run("switches 3;link 2 0;link 1 2;", "path 2 0 0 = 0", "path 0 2 0 = 1", "path 1 2 0 = 2",
                "path 2 1 0 = 3");
    }

    private static void load() {
        RUNS.sentence("23 LOAD: through how many PATHS of all it leads");
        RUNS.run(TEN, "load 0 = 9", "load 1 = 9", "load 8 = 25", "load 9 = 25", "load 17 = 9", "cut 4",
                "load 8 = 0", "load 0 = 4");
        RUNS.run(TWO, "load 0 = 1", "load 1 = 1", "cut 0", "load 0 = 0", "load 1 = 0");
        RUNS.sentence("23 NONE if there is no such CHANNEL");
        RUNS.run(TWO, "load 2 = -1", "load -1 = -1", "load 40 = -1", "load most = -1",
                "load least = -1");
        RUNS.run(BARE, "load 0 = -1");
        RUNS.run(null, "load 0 = -1");
    }

    private static void heaviest() {
        RUNS.sentence("24 the CHANNEL of the greatest LOAD, of like ones the first (what 0), its LOAD (1)");
        RUNS.run(TEN, "heaviest 0 = 8", "heaviest 1 = 25");
        RUNS.run(TWO, "heaviest 0 = 0", "heaviest 1 = 1", "cut 0", "heaviest 0 = 0", "heaviest 1 = 0");
        RUNS.run("switches 4;link 2 3;link 0 1;link 1 2;", "heaviest 0 = 4", "heaviest 1 = 4");
        RUNS.sentence("24 NONE without LINKS");
        RUNS.run(BARE, "heaviest 0 = -1", "heaviest 1 = -1");
        RUNS.run(null, "heaviest 0 = -1", "heaviest 1 = -1");
        RUNS.sentence("24 NONE for another what");
        RUNS.run(TWO, "heaviest 2 = -1", "heaviest -1 = -1", "heaviest most = -1",
                "heaviest least = -1");
    }

    private static void pairs() {
        RUNS.sentence("25 0: how many have no WAY, 1: LENGTHS of the others together, 2: longer, 3: neither");
        RUNS.run(FIVE, "pairs 0 = 0", "pairs 1 = 32", "pairs 2 = 2", "pairs 3 = 0");
        RUNS.run(TEN, "pairs 0 = 0", "pairs 1 = 330", "pairs 2 = 0", "cut 4", "pairs 0 = 50",
                "pairs 1 = 80", "pairs 2 = 0", "pairs 3 = 50");
        RUNS.run(SQUARE, "cut 0", "pairs 0 = 4", "pairs 1 = 10", "pairs 2 = 0", "pairs 3 = 0");
        RUNS.run(BARE, "pairs 0 = 6", "pairs 1 = 0", "pairs 2 = 0", "pairs 3 = 6");
        RUNS.run(BARE, "pairs 3 = 6");
        RUNS.run(TWO, "pairs 3 = 0", "cut 0", "pairs 3 = 2", "mend 0", "pairs 3 = 0");
        RUNS.run(null, "pairs 0 = 0", "pairs 1 = 0", "pairs 2 = 0", "pairs 3 = 0");
        RUNS.sentence("25 NONE for another what");
        RUNS.run(FIVE, "pairs 4 = -1", "pairs -1 = -1", "pairs most = -1", "pairs least = -1");
        RUNS.run(null, "pairs 4 = -1", "pairs -1 = -1");
    }

    private static void depends() {
        RUNS.sentence("26 whether there is a LAWFUL TURN: not from a DOWN one to an UP one");
        RUNS.run(LINE, "depends 0 2 = 1", "depends 3 1 = 1", "turn 0", "depends 0 2 = 1",
                "depends 3 1 = 1", "turn 1", "depends 0 2 = 1", "depends 3 1 = 1", "turn 0",
                "depends 0 2 = 0", "depends 3 1 = 0");
        RUNS.sentence("26 of another LINK, which begins where the first one ends");
        RUNS.run(LINE, "depends 0 0 = 0", "depends 0 1 = 0", "depends 1 0 = 0", "depends 0 3 = 0",
                "depends 2 0 = 0", "depends 1 2 = 0");
        RUNS.sentence("26 CHANNELS of LINKS that are CUT have none");
        RUNS.run(LINE, "cut 0", "depends 0 2 = 0", "depends 3 1 = 0", "mend 0", "cut 1",
                "depends 0 2 = 0", "depends 3 1 = 0", "mend 1", "depends 0 2 = 1");
        RUNS.run(SQUARE, "depends 1 4 = 1", "depends 5 0 = 1", "cut 2", "depends 1 4 = 0", "depends 5 0 = 0",
                "depends 0 2 = 1");
        RUNS.sentence("26 NONE if there are no such CHANNELS");
        RUNS.run(LINE, "depends 3 1 = 1", "depends 4 1 = -1", "depends 3 4 = -1", "depends -1 1 = -1",
                "depends 3 -1 = -1", "depends 4 4 = -1", "depends most 0 = -1", "depends 0 least = -1",
                "depends 64 0 = -1", "depends 0 66 = -1");
        RUNS.run(BARE, "depends 0 0 = -1");
        RUNS.run(null, "depends 0 0 = -1");
    }

    private static void rings() {
        RUNS.sentence("27 how many CHANNELS are in some RING");
        RUNS.run(TRIANGLE, "rings = 0", "turn 2", "rings = 6", "cut 0", "rings = 0");
        RUNS.run("switches 4;link 0 1;link 1 2;link 0 2;link 2 3;", "turn 2", "rings = 6", "ring 6 = -1");
        RUNS.run(BARE, "rings = 0");
        RUNS.run(null, "rings = 0");
    }

    private static void ring() {
        RUNS.sentence("28 the fewest CHANNELS of a RING through one");
        RUNS.run("switches 4;link 0 1;link 1 2;link 2 0;link 2 3;link 3 0;", "turn 0", "turn 1",
                "turn 3", "rings = 10", "ring 0 = 3", "ring 1 = 3", "ring 4 = 3", "ring 6 = 4",
                "ring 9 = 4", "cut 2", "rings = 8", "ring 0 = 4", "ring 4 = -1");
        RUNS.sentence("28 NONE if there is no such RING or CHANNEL");
        RUNS.run(TRIANGLE, "ring 0 = -1", "turn 2", "ring 0 = 3", "ring 5 = 3", "ring 6 = -1",
                "ring -1 = -1", "ring 40 = -1", "ring most = -1", "ring least = -1");
        RUNS.run(BARE, "ring 0 = -1");
        RUNS.run(null, "ring 0 = -1");
    }

    /** From each of ten to the next one and to the one behind that, all turned one way round. */
    private static void twentyLinksInRings() {
        StringBuilder text = new StringBuilder("switches 10;");
        for (int by = 1; by <= 2; by++) {
            for (int i = 0; i < 10; i++) {
                text.append("link ").append(i).append(' ').append((i + by) % 10).append(';');
            }
        }
        RUNS.sentence("27 as many CHANNELS as there can be");
        TurnNet x = Runs.made(text.toString());
        RUNS.go(x, "rings = 0");
        for (int link = 0; link < 20; link++) {
            if (x.link(link, 2) == x.link(link, 0)) {
                x.turn(link);
            }
        }
        RUNS.go(x, "rings = 40", "ring 0 = 6", "ring 19 = 6", "ring 20 = 5", "ring 39 = 5",
                "ring 40 = -1", "depends 38 2 = 1", "depends 39 16 = 0", "depends 39 35 = 1",
                "plan 0 1 = -2");
    }

    private static void plan() {
        RUNS.sentence("29 0: how many LINKS FLIP, 1: PHASES");
        RUNS.run(LINE, "plan 0 0 = 0", "plan 0 1 = 0", "plan 2 0 = 2", "plan 2 1 = 1");
        RUNS.run(THREE_PHASES, "plan 2 0 = 7", "plan 2 1 = 3");
        RUNS.run(BARE, "plan 2 0 = 0", "plan 2 1 = 0");
        RUNS.sentence("29 (-2: there is no PLAN)");
        RUNS.run(TRIANGLE, "plan 2 0 = 2", "plan 2 1 = -2", "plan 1 0 = 1", "plan 1 1 = 1");
        RUNS.run(LATE, "plan 3 0 = 3", "plan 3 1 = -2");
        RUNS.sentence("Terms: TURNS by the rules ahead, or by those with it turned over (either is enough)");
        RUNS.run(TRIANGLE, "plan 2 1 = -2", "turn 1", "rings = 0", "plan 2 1 = 1", "turn 2", "rings = 0",
                "plan 2 0 = 0");
        RUNS.sentence("Terms: in a PHASE LINKS are taken by their numbers, one by one");
        RUNS.run(SQUARE, "phase 3 0 = 0", "phase 3 1 = 1", "phase 3 2 = 0", "phase 3 3 = 1");
        RUNS.sentence("29 NONE if there is no such SWITCH");
        RUNS.run(LINE, "plan 3 0 = -1", "plan 3 1 = -1", "plan -1 0 = -1", "plan most 1 = -1",
                "plan least 1 = -1");
        RUNS.run(null, "plan 0 0 = -1", "plan 0 1 = -1");
        RUNS.sentence("29 NONE for another what");
        RUNS.run(LINE, "plan 2 2 = -1", "plan 2 -1 = -1", "plan 2 most = -1", "plan 2 least = -1");
    }

    private static void phase() {
        RUNS.sentence("30 in which PHASE (from 0) of it a LINK FLIPS");
        RUNS.run(THREE_PHASES, "phase 2 0 = 2", "phase 2 1 = 0", "phase 2 2 = 1", "phase 2 3 = 0",
                "phase 2 4 = 0", "phase 2 5 = 1", "phase 2 6 = 2");
        RUNS.sentence("30 NONE if in none, there is no PLAN");
        RUNS.run(TRIANGLE, "phase 1 0 = 0", "phase 1 1 = -1", "phase 0 0 = -1", "phase 2 1 = -1");
        RUNS.run(LATE, "phase 3 2 = -1", "phase 3 0 = -1", "phase 3 1 = -1");
        RUNS.sentence("30 NONE if there are none such");
        RUNS.run(LINE, "phase 2 1 = 0", "phase 2 2 = -1", "phase 2 -1 = -1", "phase 2 32 = -1",
                "phase 2 most = -1", "phase 3 0 = -1", "phase -1 0 = -1", "phase least 0 = -1");
        RUNS.run(null, "phase 0 0 = -1");
        RUNS.sentence("Terms: a LINK that is CUT FLIPS, too, and is in no RING's way");
        RUNS.run(TRIANGLE, "cut 1", "plan 2 0 = 2", "plan 2 1 = 1", "phase 2 1 = 0", "phase 2 2 = 0");
    }

    private static void rooted() {
        RUNS.sentence("31 were the NET ORIENTED by a ROOT");
        RUNS.run(FIVE, "rooted 0 1 = 32", "turn 0", "turn 1", "turn 2", "rooted 0 1 = 32",
                "rooted 0 0 = 0", "link 0 2 = 1", "about 3 = 0", "about 9 = 3");
        RUNS.sentence("31 2: the greatest LOAD (0 without LINKS)");
        RUNS.run(TEN, "rooted 0 2 = 25", "rooted 9 2 = 25");
        RUNS.run(BARE, "rooted 2 0 = 6", "rooted 2 1 = 0", "rooted 2 2 = 0");
        RUNS.run(TWO, "rooted 1 2 = 1", "cut 0", "rooted 1 2 = 0", "rooted 1 0 = 2", "rooted 1 1 = 0");
        RUNS.sentence("31 NONE if there is no such SWITCH");
        RUNS.run(LINE, "rooted 2 0 = 0", "rooted 3 0 = -1", "rooted -1 1 = -1", "rooted most 2 = -1",
                "rooted least 2 = -1");
        RUNS.run(null, "rooted 0 0 = -1", "rooted 0 2 = -1");
        RUNS.sentence("31 NONE for another what");
        RUNS.run(LINE, "rooted 0 2 = 2", "rooted 0 3 = -1", "rooted 0 -1 = -1", "rooted 0 most = -1",
                "rooted 0 least = -1");
    }

    private static void best() {
        RUNS.sentence("32 the ROOT for which rooted() is least, of like ones the first");
        RUNS.run(TEN, "best 0 = 0", "best 1 = 0", "best 2 = 0", "orient 9", "best 1 = 0");
        RUNS.run(BARE, "best 0 = 0", "best 1 = 0", "best 2 = 0");
        RUNS.run("switches 3;link 0 1;link 0 2;rank 0-far;", "best 0 = 1", "best 1 = 0", "best 2 = 0",
                "about 3 = 0");
        RUNS.run("switches 3;link 0 1;link 1 2;rank 0-far;", "best 0 = 0", "best 1 = 1", "best 2 = 1");
        RUNS.run("switches 3;link 2 1;link 2 0;rank 0-far;", "best 1 = 2", "best 2 = 2");
        RUNS.sentence("32 NONE without SWITCHES");
        RUNS.run(null, "best 0 = -1", "best 1 = -1", "best 2 = -1");
        RUNS.sentence("32 NONE for another what");
        RUNS.run(LINE, "best 3 = -1", "best -1 = -1", "best most = -1", "best least = -1");
    }

    private static void without() {
        RUNS.sentence("33 were a LINK CUT");
        RUNS.run(LINE, "without 0 0 = 4", "without 0 1 = 4", "without 0 2 = 0", "without 1 0 = 4",
                "about 2 = 2", "about 9 = 0");
        RUNS.run(SQUARE, "without 0 0 = 4", "without 0 1 = 0", "without 0 2 = 1", "turn 1",
                "without 0 2 = 0", "without 0 0 = 0");
        RUNS.sentence("33 by the ROOT there is");
        RUNS.run(SQUARE, "orient 3", "without 0 2 = 0", "without 1 2 = 1", "orient 0", "without 1 2 = 0");
        RUNS.sentence("33 how many LINKS would have another UP end (itself, and those that are CUT, too)");
        RUNS.run(LINE, "turn 0", "without 0 2 = 1", "cut 1", "turn 1", "without 0 2 = 2");
        RUNS.sentence("33 NONE if there is no such LINK");
        RUNS.run(LINE, "without 2 0 = -1", "without -1 0 = -1", "without 32 1 = -1",
                "without most 1 = -1", "without least 2 = -1");
        RUNS.run(BARE, "without 0 0 = -1");
        RUNS.run(null, "without 0 0 = -1");
        RUNS.sentence("33 NONE if it is CUT");
        RUNS.run(LINE, "cut 1", "without 1 0 = -1", "without 1 1 = -1", "without 1 2 = -1",
                "without 0 0 = 6", "mend 1", "without 1 0 = 4");
        RUNS.sentence("33 NONE for another what");
        RUNS.run(LINE, "without 0 3 = -1", "without 0 -1 = -1", "without 0 most = -1",
                "without 0 least = -1");
    }

    private static void dearest() {
        RUNS.sentence("34 without which most pairs have no WAY, of like ones the first");
        RUNS.run(LINE, "dearest = 0", "cut 0", "dearest = 1");
        RUNS.run(TEN, "dearest = 4", "cut 4", "dearest = 1", "cut 1", "dearest = 6");
        RUNS.run("switches 4;link 1 2;link 0 1;link 0 2;link 0 3;link 1 3;link 2 3;", "without 0 0 = 0",
                "without 1 0 = 2", "without 2 0 = 0", "dearest = 1");
        RUNS.sentence("34 the first that STANDS, though none is missed");
        RUNS.run(TRIANGLE, "turn 0", "turn 1", "without 0 0 = 0", "without 1 0 = 0", "without 2 0 = 0",
                "dearest = 0", "cut 0", "dearest = 1");
        RUNS.sentence("34 NONE if none STANDS");
        RUNS.run(TWO, "dearest = 0", "cut 0", "dearest = -1", "mend 0", "dearest = 0");
        RUNS.run(BARE, "dearest = -1");
        RUNS.run(null, "dearest = -1");
    }

    private static void apart() {
        StringBuilder text = new StringBuilder("switches 10;link 0 1;");
        for (int k = 2; k < 10; k++) {
            text.append("link 0 ").append(k).append(";link ").append(k).append(" 1;");
        }
        RUNS.sentence("35 the most rows of CHANNELS, of which no two have a LINK in common");
        RUNS.run(text.toString(), "apart 0 1 = 9", "apart 1 0 = 9", "apart 2 3 = 2", "apart 0 9 = 2",
                "cut 0", "apart 0 1 = 8", "cut 1", "apart 0 2 = 1", "cut 2", "apart 0 2 = 0",
                "apart 2 0 = 0");
        RUNS.sentence("35 that STAND, lawful or not");
        RUNS.run(SQUARE, "length 1 2 = 2", "apart 1 2 = 2", "cut 0", "length 1 2 = -1", "apart 1 2 = 1");
        RUNS.run(BARE, "apart 0 1 = 0");
        RUNS.sentence("35 NONE if there are none such, or they are the same");
        RUNS.run(SQUARE, "apart 3 0 = 2", "apart 4 0 = -1", "apart 0 4 = -1", "apart -1 0 = -1",
                "apart 0 -1 = -1", "apart 0 0 = -1", "apart 3 3 = -1", "apart 4 4 = -1",
                "apart most 0 = -1", "apart 0 least = -1");
        RUNS.run(null, "apart 0 1 = -1", "apart 0 0 = -1");
    }

    private static void around() {
        RUNS.sentence("36 LENGTH, were a LINK CUT (the rules staying)");
        RUNS.run(SQUARE, "around 1 3 1 = 3", "around 1 3 0 = 1", "around 0 3 0 = 2", "around 2 2 2 = 0",
                "length 1 3 = 1", "about 2 = 4");
        RUNS.run(TRIANGLE, "around 0 1 0 = -1", "around 0 2 2 = 2", "around 1 2 1 = 2");
        RUNS.sentence("36 NONE if there is no WAY then");
        RUNS.run(TWO, "around 0 1 0 = -1", "around 0 0 0 = 0", "around 1 1 0 = 0");
        RUNS.run(SQUARE, "around 1 2 0 = -1", "plain 1 2 = 2");
        RUNS.sentence("36 NONE if there are no such SWITCHES");
        RUNS.run(LINE, "around 2 1 0 = 1", "around 3 1 0 = -1", "around 1 3 0 = -1",
                "around -1 1 0 = -1", "around 1 -1 0 = -1", "around 3 3 0 = -1", "around most 1 0 = -1",
                "around 1 least 0 = -1");
        RUNS.sentence("36 NONE if there is no such LINK that STANDS");
        RUNS.run(LINE, "around 0 1 1 = 1", "around 0 1 2 = -1", "around 0 1 -1 = -1",
                "around 0 1 32 = -1", "around 0 1 most = -1", "cut 1", "around 0 1 1 = -1",
                "around 0 0 1 = -1", "length 0 1 = 1");
        RUNS.run(BARE, "around 0 0 0 = -1");
        RUNS.run(null, "around 0 0 0 = -1");
    }

    private static void pivots() {
        StringBuilder star = new StringBuilder("switches 10;");
        for (int k = 0; k < 9; k++) {
            star.append("link ").append(k).append(" 9;");
        }
        RUNS.sentence("37 SWITCHES without which some two others would have no plain() way, as bits");
        RUNS.run(star.toString(), "pivots = 512");
        RUNS.run(TEN, "pivots = 510", "cut 4", "pivots = 462");
        RUNS.run(LINE, "pivots = 2", "cut 0", "pivots = 0");
        RUNS.run(TRIANGLE, "pivots = 0", "cut 1", "pivots = 1", "mend 1", "cut 2", "pivots = 2");
        RUNS.run(TWO, "pivots = 0");
        RUNS.run(BARE, "pivots = 0");
        RUNS.run(null, "pivots = 0");
        RUNS.sentence("37 some two others that have a plain() way now, lawful or not");
        RUNS.run(LINE, "turn 1", "turn 0", "pivots = 2", "turn 0", "length 0 2 = -1", "pivots = 2");
    }
}
