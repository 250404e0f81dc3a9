/** The boundaries of what acts do: 'Terms' from FAR to ACTS, and promises 6 to 14. */
public final class ActEdgesTest {
    private static final Runs RUNS = new Runs();
    private static final String TWO = "switches 2;link 0 1;";
    private static final String LINE = "switches 3;link 0 1;link 1 2;";
    private static final String LONG_LINE = "switches 4;link 0 1;link 1 2;link 2 3;";
    private static final String SQUARE = "switches 4;link 0 1;link 1 3;link 0 2;link 2 3;";
    private static final String TRIANGLE = "switches 3;link 0 1;link 1 2;link 0 2;";
    /** By root 3 link 2 can flip, then neither 0 nor 3 can. */
    private static final String LATE = "switches 4;link 0 2;link 1 0;link 3 2;link 1 2;";
    /** By root 2: links 1, 3, 4, then 2, 5, then 0, 6. */
    private static final String THREE_PHASES = "switches 6;link 2 4;link 1 0;link 1 4;link 3 5;"
            + "link 0 3;link 3 4;link 2 5;";
    private static final String TEN = "switches 10;link 0 1;link 1 2;link 2 3;link 3 4;link 4 5;"
            + "link 5 6;link 6 7;link 7 8;link 8 9;";

    public static void main(String[] args) {
        standing();
        far();
        rankWraps();
        rankByZero();
        above();
        oriented();
        packetsAreTwelve();
        lowestNumber();
        atItsGoal();
        stateOfAPacket();
        room();
        eachInItsTurn();
        waits();
        refusedAreNoActs();
        tillAnotherAct();
        twentyActs();
        cut();
        mend();
        turn();
        orient();
        changeNumbers();
        changeWithoutPlan();
        changeInPhases();
        send();
        steps();
        undo();
        redo();
        RUNS.close();
    }

    private static String[] times(int count, String call) {
        String[] calls = new String[count];
        java.util.Arrays.fill(calls, call);
        return calls;
    }

    // ---- Terms ----

    private static void standing() {
        RUNS.sentence("Terms: LINKS STAND, or are CUT (none, at first)");
        RUNS.run(SQUARE, "about 1 = 4", "about 2 = 4", "link 0 3 = 1", "link 3 3 = 1");
        RUNS.run("switches 2;", "about 1 = 0", "about 2 = 0");
    }

    private static void far() {
        RUNS.sentence("Terms: FAR: by how few LINKS that STAND it is from the ROOT, 10 if not at all");
        RUNS.run(TEN, "node 0 0 = 0", "node 9 0 = 9", "cut 8", "node 9 0 = 10", "node 8 0 = 8",
                "cut 0", "node 0 0 = 0", "node 1 0 = 10", "mend 8", "node 9 0 = 10", "orient 9",
                "node 9 0 = 0", "node 1 0 = 8", "node 0 0 = 10");
        RUNS.run("switches 2;", "node 0 0 = 0", "node 1 0 = 10");
        RUNS.run("switches 3;link 1 2;root 1;", "node 1 0 = 0", "node 2 0 = 1", "node 0 0 = 10");
        RUNS.run(TRIANGLE, "node 2 0 = 1", "cut 2", "node 2 0 = 2");
        RUNS.sentence("Terms: RANK: how many LINKS that STAND it has");
        RUNS.run(TRIANGLE + "rank links;", "node 0 1 = 2", "cut 0", "node 0 1 = 1", "cut 2",
                "node 0 1 = 0", "node 2 1 = 1");
        RUNS.sentence("Terms: RANK: FAR, if it is not told");
        RUNS.run(LINE, "node 2 1 = 2", "cut 1", "node 2 1 = 10", "about 8 = 0");
        RUNS.run(LINE + "rank 0;", "node 2 1 = 0", "about 8 = 1");
    }

    private static void rankWraps() {
        RUNS.sentence("Terms: RANK (ints, wrapping)");
        String edge = TWO + "rank 2*32*32*32*32*32*32";
        RUNS.run(edge + "-1;", "node 0 1 = 2147483647");
        RUNS.run(edge + ";", "node 0 1 = -2147483648");
        RUNS.run(edge + "-1+1;", "node 0 1 = -2147483648");
        RUNS.run(TWO + "rank -(2*32*32*32*32*32*32);", "node 0 1 = -2147483648");
        RUNS.run(edge + "*2;", "node 0 1 = 0");
        RUNS.run(TWO + "rank 999*999*999*999;", "node 0 1 = " + (int) (999L * 999 * 999 * 999));
        RUNS.run(edge + "/-1;", "node 0 1 = -2147483648");
        RUNS.run(edge + "%-1;", "node 0 1 = 0");
        RUNS.sentence("Terms: of two SWITCHES that of lower RANK is ABOVE, however far they are apart");
        RUNS.run(edge + "-1+number;", "node 0 1 = 2147483647", "node 1 1 = -2147483648",
                "link 0 2 = 1", "node 0 3 = 1", "node 1 3 = 0");
        RUNS.run(edge + "-2+number;", "node 1 1 = 2147483647", "link 0 2 = 0", "node 1 3 = 1");
    }

    private static void rankByZero() {
        RUNS.sentence("Terms: RANK (/ cut, % its rest, both by 0: 0)");
        String[] rows = {"7/2", "3", "-7/2", "-3", "7/-2", "-3", "-7/-2", "3", "1/2", "0", "-1/2", "0",
            "7%2", "1", "-7%2", "-1", "7%-2", "1", "-7%-2", "-1", "6%2", "0", "7/1", "7", "7%1", "0",
            "7/0", "0", "-7/0", "0", "0/0", "0", "7%0", "0", "-7%0", "0", "0%0", "0", "7/far", "0",
            "7%number", "0", "7/(1-1)", "0", "7/0+5", "5", "5-7%0", "5", "8/0*9", "0"};
        for (int i = 0; i < rows.length; i += 2) {
            RUNS.run("switches 2;rank " + rows[i] + ";", "node 0 1 = " + rows[i + 1]);
        }
    }

    private static void above() {
        RUNS.sentence("Terms: of like ones that of the lower number is ABOVE");
        RUNS.run("switches 3;link 2 1;link 1 0;rank 5;", "link 0 2 = 1", "link 1 2 = 0",
                "node 0 3 = 0", "node 1 3 = 1", "node 2 3 = 2");
        RUNS.run("switches 3;link 2 1;link 1 0;rank -number;", "link 0 2 = 2", "link 1 2 = 1",
                "node 0 3 = 2", "node 1 3 = 1", "node 2 3 = 0");
        RUNS.run("switches 3;link 2 1;link 1 0;rank number/2;", "link 0 2 = 1", "link 1 2 = 0");
    }

    private static void oriented() {
        RUNS.sentence("Terms: ORIENTED: of each LINK, CUT or not; so it is at first");
        RUNS.run(LINE, "link 0 2 = 0", "link 1 2 = 1");
        RUNS.run(LINE + "root 2;", "link 0 2 = 1", "link 1 2 = 2");
        RUNS.run(LINE, "cut 0", "orient 2 = 2", "link 0 2 = 1", "link 1 2 = 2");
        RUNS.run(LINE, "cut 0", "cut 1", "turn 0", "turn 1", "orient 0 = 2", "link 0 2 = 0",
                "link 1 2 = 1");
        RUNS.sentence("Terms: A LINK keeps its UP end while FAR and RANK change");
        RUNS.run(SQUARE, "cut 0", "node 1 0 = 3", "link 1 2 = 1", "orient 0 = 1", "link 1 2 = 3");
    }

    private static void packetsAreTwelve() {
        RUNS.sentence("Terms: PACKETS, 12 at most (0 .. 11)");
        TurnNet x = Runs.made(LINE);
        for (int i = 0; i < 12; i++) {
            RUNS.go(x, "send 0 2 = " + i);
        }
        RUNS.go(x, "about 5 = 12", "packet 11 0 = 0", "packet 12 0 = -2", "send 0 2 = -1",
                "send 1 2 = -1", "about 5 = 12", "about 9 = 12", "steps 3 = 6", "about 5 = 11",
                "send 1 2 = 0", "send 1 2 = -1");
    }

    private static void lowestNumber() {
        RUNS.sentence("Terms: a new one is the lowest that is not there");
        RUNS.run(LONG_LINE, "send 0 3 = 0", "send 1 0 = 1", "send 3 2 = 2", "steps 2", "about 5 = 1",
                "packet 1 0 = -2", "packet 2 0 = -2", "send 2 3 = 1", "send 2 3 = 2", "steps 2",
                "packet 0 0 = -2", "packet 1 0 = 3", "packet 2 0 = 2", "send 3 0 = 0", "send 3 1 = 3");
        RUNS.sentence("Terms: PACKETS came there by a CHANNEL (by none at first)");
        RUNS.run(LINE, "send 0 2", "packet 0 2 = -1", "packet 0 3 = 0", "steps 1", "packet 0 2 = 0",
                "steps 1", "packet 0 2 = 2", "steps 1", "send 1 0 = 0", "packet 0 2 = -1",
                "packet 0 3 = 0");
        RUNS.sentence("Terms: a new one has not WAITED, though one of its number had");
        RUNS.run(LINE, "send 0 1", "cut 0", "steps 7", "packet 0 3 = 7", "mend 0", "steps 2", "about 5 = 0",
                "send 2 1 = 0", "packet 0 3 = 0", "packet 0 2 = -1", "packet 0 1 = 1");
    }

    private static void atItsGoal() {
        RUNS.sentence("Terms: one that is at its goal leaves (ARRIVED, one more)");
        RUNS.run(LINE, "send 0 1", "steps 1 = 1", "packet 0 0 = 1", "about 6 = 0", "about 5 = 1",
                "steps 1 = 1", "packet 0 0 = -2", "about 6 = 1", "about 5 = 0", "steps 1 = 0",
                "about 6 = 1");
        RUNS.sentence("Terms: it leaves, whatever became of its LINK");
        RUNS.run(LINE, "send 0 1", "steps 1", "cut 0", "cut 1", "packet 0 4 = -1", "steps 1 = 1",
                "about 6 = 1");
    }

    private static void stateOfAPacket() {
        RUNS.sentence("Terms: of STATE 1, if it came by a CHANNEL that is DOWN now, else of 0");
        RUNS.run(LINE, "send 0 2", "steps 1 = 1", "turn 1 = 2", "packet 0 4 = -1", "steps 1 = 0",
                "packet 0 3 = 1", "turn 0 = 1", "packet 0 4 = 2", "steps 1 = 1", "packet 0 0 = 2",
                "packet 0 3 = 1");
        RUNS.run(LINE, "turn 1", "send 1 2", "packet 0 4 = 2", "steps 1 = 1");
        RUNS.run(LINE, "send 0 2", "steps 1", "turn 1", "cut 0", "packet 0 4 = -1", "turn 0",
                "packet 0 4 = 2");
    }

    private static void room() {
        RUNS.sentence("Terms: if fewer than ROOM PACKETS are there that came by that CHANNEL latest");
        for (int room = 1; room <= 3; room++) {
            String text = LINE + "room " + room + ";";
            TurnNet x = Runs.made(text);
            RUNS.go(x, times(5, "send 0 1"));
            RUNS.go(x, "steps 1 = " + room, "node 1 4 = " + room, "packet " + (room - 1) + " 0 = 1",
                    "packet " + room + " 0 = 0", "packet " + room + " 3 = 1",
                    "packet " + room + " 4 = 0");
        }
        RUNS.sentence("Terms: ROOM is by CHANNEL: who came by another one, or by none, does not count");
        RUNS.run("switches 3;link 0 1;link 2 1;", "send 0 1", "send 2 1", "steps 1 = 2", "node 1 4 = 2");
        RUNS.run("switches 3;link 0 1;link 2 1;", "send 1 2", "send 0 1", "cut 1", "steps 1 = 1",
                "node 1 4 = 2");
        RUNS.sentence("Terms: ROOM: who came by it, but went on since, does not count");
        RUNS.run(LINE, "send 0 2", "steps 2", "packet 0 0 = 2", "send 0 1", "steps 1 = 2",
                "packet 1 0 = 1");
        RUNS.sentence("Terms: ROOM: who came by it and left does not count");
        RUNS.run(LINE, "send 0 1", "steps 2 = 2", "send 2 1", "send 0 1", "steps 1 = 2");
    }

    private static void eachInItsTurn() {
        RUNS.sentence("Terms: a STEP: by numbers (each in its turn: by what is so then)");
        RUNS.run(LONG_LINE, "send 0 3 = 0", "steps 1 = 1", "send 0 3 = 1", "steps 1 = 2",
                "packet 0 0 = 2", "packet 1 0 = 1");
        RUNS.run(LONG_LINE, "send 0 1 = 0", "send 0 3 = 1", "steps 1 = 1", "steps 1 = 2",
                "send 0 3 = 0", "steps 1 = 1", "packet 0 0 = 0", "packet 0 3 = 1", "packet 1 0 = 2");
        RUNS.run(LINE, "send 0 1 = 0", "send 0 1 = 1", "steps 1 = 1", "steps 1 = 2",
                "packet 1 0 = 1");
    }

    private static void waits() {
        RUNS.sentence("Terms: else it WAITS, one STEP more");
        RUNS.run(LINE, "send 0 2", "cut 1", "packet 0 3 = 0", "steps 1 = 0", "packet 0 3 = 1",
                "steps 50 = 0", "packet 0 3 = 51", "packet 0 0 = 0", "mend 1", "steps 50 = 3");
    }

    private static void refusedAreNoActs() {
        RUNS.sentence("Terms: ACTS, where they are not refused");
        RUNS.run(LINE, "cut 2 = -1", "mend 0 = -1", "turn -1 = -1", "orient 3 = -1",
                "change 3 0 = -1", "change 0 21 = -1", "send 1 1 = -1", "steps 0 = -1",
                "about 9 = 0", "undo = 0");
        RUNS.run(TRIANGLE, "change 2 0 = -2", "about 9 = 0", "undo = 0");
        RUNS.sentence("Terms: ACTS are such though nothing is another thing then");
        RUNS.run(LINE, "orient 0 = 0", "change 0 0 = 0", "steps 1 = 0", "about 9 = 3", "undo = 1",
                "undo = 1", "undo = 1", "undo = 0");
        RUNS.sentence("Terms: what is asked, kept in a BOX or put on the TAPE is no ACT");
        RUNS.run(LINE, "turn 0", "turn 1", "undo", "image 0", "feed 0 0 0 0 0", "end 3", "game 0 9 0",
                "drains", "stuck", "about 9 = 1", "about 10 = 1");
    }

    private static void tillAnotherAct() {
        RUNS.sentence("Terms: REDO does that again which was taken back last (till another ACT)");
        String[] acts = {"cut 1", "mend 0", "turn 1", "orient 0", "change 0 0", "send 0 1", "steps 1"};
        for (String act : acts) {
            RUNS.run(LINE, "cut 0", "turn 0", "turn 1", "undo", "undo", "about 10 = 2", act,
                    "about 10 = 0", "about 9 = 2", "redo = 0", "undo = 1", "redo = 1", "redo = 0");
        }
        String[] refused = {"cut 0", "mend 1", "turn 2", "orient 3", "change 3 0", "send 1 1",
            "steps 51", "back 0", "back 2"};
        for (String call : refused) {
            RUNS.run(LINE, "cut 0", "turn 0", "turn 1", "undo", "undo", call + " = -1",
                    "about 10 = 2", "about 9 = 1", "redo = 1", "redo = 1", "redo = 0",
                    "link 0 2 = 1", "link 1 2 = 2");
        }
    }

    private static void twentyActs() {
        RUNS.sentence("Terms: 20 at most are kept, the oldest go");
        for (int acts = 19; acts <= 22; acts++) {
            TurnNet x = Runs.made(LINE);
            int kept = Math.min(acts, 20);
            RUNS.go(x, times(acts, "steps 1"));
            RUNS.go(x, "about 9 = " + kept, "about 10 = 0");
            RUNS.go(x, times(kept, "undo = 1"));
            RUNS.go(x, "undo = 0", "about 7 = " + (acts - kept), "about 9 = 0", "about 10 = " + kept);
            RUNS.go(x, times(kept, "redo = 1"));
            RUNS.go(x, "redo = 0", "about 7 = " + acts, "about 9 = " + kept, "about 10 = 0");
        }
        RUNS.sentence("Terms: those that were taken back are gone with another ACT and take no place");
        TurnNet x = Runs.made(LINE);
        RUNS.go(x, times(20, "steps 1"));
        RUNS.go(x, "undo", "steps 2", "about 9 = 20", "about 7 = 21");
        RUNS.go(x, times(20, "undo = 1"));
        RUNS.go(x, "undo = 0", "about 7 = 0", "steps 5", "about 9 = 1", "about 10 = 0", "undo = 1",
                "about 7 = 0", "undo = 0");
    }

    // ---- promises 6 to 14 ----

    private static void cut() {
        RUNS.sentence("6 a LINK is CUT: how many STAND");
        RUNS.run(SQUARE, "cut 3 = 3", "cut 0 = 2", "cut 1 = 1", "cut 2 = 0", "about 2 = 0",
                "link 3 3 = 0");
        RUNS.sentence("6 NONE, doing nothing, if there is none such");
        RUNS.run(SQUARE, "cut 4 = -1", "cut -1 = -1", "cut 31 = -1", "cut 32 = -1", "cut 33 = -1",
                "cut most = -1", "cut least = -1", "about 2 = 4", "about 9 = 0");
        RUNS.run("switches 2;", "cut 0 = -1");
        RUNS.run(null, "cut 0 = -1", "about 9 = 0");
        RUNS.sentence("6 NONE, doing nothing, if it is CUT");
        RUNS.run(SQUARE, "cut 0 = 3", "cut 0 = -1", "about 2 = 3", "about 9 = 1", "mend 0 = 4",
                "cut 0 = 3");
    }

    private static void mend() {
        RUNS.sentence("7 it STANDS again: how many STAND");
        RUNS.run(TWO, "cut 0 = 0", "mend 0 = 1", "link 0 3 = 1", "about 9 = 2");
        RUNS.sentence("7 NONE, doing nothing, if there is none such");
        RUNS.run(TWO, "cut 0", "mend 1 = -1", "mend -1 = -1", "mend 32 = -1", "mend most = -1",
                "mend least = -1", "about 2 = 0", "about 9 = 1");
        RUNS.run(null, "mend 0 = -1");
        RUNS.sentence("7 NONE, doing nothing, if it STANDS");
        RUNS.run(LINE, "mend 0 = -1", "cut 0", "mend 1 = -1", "mend 0 = 2", "mend 0 = -1",
                "about 2 = 2", "about 9 = 2");
        RUNS.sentence("7 its UP end is the one it had");
        RUNS.run(LINE, "turn 0 = 1", "cut 0", "mend 0", "link 0 2 = 1");
    }

    private static void turn() {
        RUNS.sentence("8 a LINK's ends are changed over: its UP end then");
        RUNS.run(LINE, "turn 1 = 2", "turn 1 = 1", "turn 0 = 1", "link 0 2 = 1", "link 1 2 = 1",
                "link 0 0 = 0", "link 0 1 = 1");
        RUNS.run(LINE, "cut 0", "turn 0 = 1", "link 0 3 = 0");
        RUNS.sentence("8 NONE, doing nothing, if there is none such");
        RUNS.run(LINE, "turn 2 = -1", "turn -1 = -1", "turn 32 = -1", "turn most = -1",
                "turn least = -1", "link 0 2 = 0", "link 1 2 = 1", "about 9 = 0");
        RUNS.run("switches 2;", "turn 0 = -1");
        RUNS.run(null, "turn 0 = -1");
    }

    private static void orient() {
        RUNS.sentence("9 ORIENTED at once by a ROOT (which it has then): how many have another UP end");
        RUNS.run(LINE, "orient 0 = 0", "orient 1 = 1", "about 3 = 1", "orient 2 = 1", "about 3 = 2",
                "orient 2 = 0", "orient 0 = 2", "about 3 = 0");
        RUNS.run("switches 2;", "orient 1 = 0", "about 3 = 1");
        RUNS.sentence("9 NONE, doing nothing, if there is no such SWITCH");
        RUNS.run(LINE, "turn 0", "orient 3 = -1", "orient -1 = -1", "orient 10 = -1",
                "orient most = -1", "orient least = -1", "about 3 = 0", "link 0 2 = 1", "about 9 = 1");
        RUNS.run(null, "orient 0 = -1", "about 3 = -1");
    }

    private static void changeNumbers() {
        RUNS.sentence("10 so many STEPS (0 .. 20) behind each");
        RUNS.run(SQUARE, "change 3 0 = 2", "about 7 = 0", "about 3 = 3");
        RUNS.run(SQUARE, "change 3 1 = 2", "about 7 = 2");
        RUNS.run(SQUARE, "change 3 20 = 2", "about 7 = 40", "about 9 = 1");
        RUNS.sentence("10 NONE, doing nothing, if there is no such SWITCH, number");
        RUNS.run(SQUARE, "change 3 -1 = -1", "change 3 21 = -1", "change 3 most = -1",
                "change 3 least = -1", "change 4 0 = -1", "change -1 0 = -1", "change most 0 = -1",
                "change least 0 = -1", "change 4 21 = -1", "about 3 = 0", "about 7 = 0",
                "about 9 = 0", "link 0 2 = 0");
        RUNS.run(TRIANGLE, "change 2 21 = -1", "change 2 -1 = -1");
        RUNS.run(null, "change 0 0 = -1");
        RUNS.sentence("10 (0: nothing FLIPS; the ROOT is another one then all the same)");
        RUNS.run("switches 3;link 0 1;link 0 2;rank number;", "change 2 20 = 0", "about 3 = 2",
                "about 7 = 0", "about 9 = 1", "undo = 1", "about 3 = 0");
        RUNS.run(LINE, "change 0 5 = 0", "about 3 = 0", "about 7 = 0", "about 9 = 1");
        RUNS.run("switches 2;", "change 1 3 = 0", "about 3 = 1", "about 7 = 0");
    }

    private static void changeWithoutPlan() {
        RUNS.sentence("10 -2, doing nothing, if there is no PLAN");
        RUNS.run(TRIANGLE, "send 0 2", "change 2 3 = -2", "about 3 = 0", "about 7 = 0", "about 9 = 1",
                "packet 0 0 = 0", "link 0 2 = 0", "link 1 2 = 1", "link 2 2 = 0", "change 1 3 = 1");
        RUNS.sentence("Terms: if none could be taken in a PHASE, there is no PLAN (a later one, too)");
        RUNS.run(LATE, "send 3 0", "turn 2", "undo", "change 3 5 = -2", "about 3 = 0", "about 7 = 0",
                "about 9 = 1", "about 10 = 1", "packet 0 0 = 3", "link 0 2 = 0", "link 1 2 = 0",
                "link 2 2 = 2", "link 3 2 = 1");
        RUNS.sentence("Terms: a RING that is there already: none can be taken");
        RUNS.run(TRIANGLE, "turn 2", "rings = 6", "change 0 0 = -2", "link 2 2 = 2");
        RUNS.run("switches 5;link 0 1;link 1 2;link 0 2;link 3 4;", "turn 2", "cut 3", "turn 3",
                "change 0 0 = -2", "cut 1", "change 0 0 = 1", "link 2 2 = 0", "link 3 2 = 3");
    }

    private static void changeInPhases() {
        RUNS.sentence("10 it is so by PHASES, so many STEPS behind each: how many PHASES");
        RUNS.run(THREE_PHASES, "change 2 5 = 3", "about 7 = 15", "about 3 = 2", "link 0 2 = 2",
                "link 1 2 = 1", "link 2 2 = 4", "link 3 2 = 5", "link 4 2 = 3", "link 5 2 = 4",
                "link 6 2 = 2", "about 9 = 1", "undo = 1", "about 7 = 0", "about 3 = 0",
                "change 2 0 = 3", "about 7 = 0");
        RUNS.sentence("10 the STEPS are by the rules behind their PHASE");
        RUNS.run(SQUARE, "send 1 2", "packet 0 4 = 1", "change 3 1 = 2", "packet 0 0 = 3",
                "packet 0 2 = 2", "packet 0 3 = 1");
        RUNS.run(SQUARE, "send 1 2", "change 3 0 = 2", "packet 0 0 = 1", "packet 0 4 = 2");
        RUNS.run(SQUARE, "send 1 2", "change 3 4 = 2", "about 6 = 1", "about 5 = 0");
    }

    private static void send() {
        RUNS.sentence("11 a PACKET is sent from a SWITCH to another one: its number");
        RUNS.run(LINE, "send 0 2 = 0", "send 2 0 = 1", "packet 1 0 = 2", "packet 1 1 = 0");
        RUNS.run("switches 2;", "send 0 1 = 0", "packet 0 4 = -1");
        RUNS.sentence("11 NONE, doing nothing, if there are none such");
        RUNS.run(LINE, "send 3 0 = -1", "send 0 3 = -1", "send -1 0 = -1", "send 0 -1 = -1",
                "send most 0 = -1", "send 0 least = -1", "send 3 3 = -1", "about 5 = 0", "about 9 = 0");
        RUNS.run(null, "send 0 1 = -1", "send 0 0 = -1");
        RUNS.sentence("11 NONE, doing nothing, if they are the same");
        RUNS.run(LINE, "send 0 0 = -1", "send 2 2 = -1", "about 5 = 0", "about 9 = 0");
        RUNS.sentence("11 NONE, doing nothing, if there are 12");
        TurnNet x = Runs.made(LINE);
        RUNS.go(x, times(11, "send 0 1"));
        RUNS.go(x, "send 2 1 = 11", "send 2 1 = -1", "about 5 = 12", "about 9 = 12", "undo = 1",
                "send 1 0 = 11");
    }

    private static void steps() {
        RUNS.sentence("12 so many STEPS (1 .. 50): how often a PACKET went on, or left");
        RUNS.run(LINE, "steps 1 = 0", "about 7 = 1", "steps 50 = 0", "about 7 = 51");
        RUNS.run(LINE, "send 0 2", "steps 50 = 3", "about 6 = 1");
        RUNS.run(LINE, "send 0 2", "send 2 0", "send 1 0", "steps 1 = 3", "steps 1 = 2",
                "steps 1 = 2", "about 6 = 2", "steps 1 = 1", "about 6 = 3");
        RUNS.sentence("12 NONE, doing nothing, for another number");
        RUNS.run(LINE, "send 0 2", "steps 0 = -1", "steps 51 = -1", "steps -1 = -1",
                "steps most = -1", "steps least = -1", "about 7 = 0", "about 9 = 1", "packet 0 0 = 0");
        RUNS.sentence("12 NONE, doing nothing, without SWITCHES");
        RUNS.run(null, "steps 1 = -1", "steps 50 = -1", "about 7 = 0", "about 9 = 0");
        RUNS.run("", "steps 1 = -1", "about 7 = 0");
        RUNS.run("switches 2;", "steps 1 = 0", "about 7 = 1");
    }

    private static void undo() {
        RUNS.sentence("13 UNDO: true; false if there is none");
        RUNS.run(null, "undo = 0");
        RUNS.run(LINE, "undo = 0", "about 10 = 0", "turn 0", "undo = 1", "undo = 0", "about 10 = 1");
        RUNS.sentence("13 UNDO takes back the latest ACT that was not: each kind of them");
        RUNS.run(LINE, "cut 1", "undo = 1", "link 1 3 = 1", "about 2 = 2");
        RUNS.run(LINE, "cut 1", "mend 1", "undo = 1", "link 1 3 = 0", "undo = 1", "link 1 3 = 1");
        RUNS.run(LINE, "turn 1", "undo = 1", "link 1 2 = 1");
        RUNS.run(LINE, "orient 2", "undo = 1", "about 3 = 0", "link 0 2 = 0", "link 1 2 = 1");
        RUNS.run(SQUARE, "send 1 2", "change 3 2", "undo = 1", "about 3 = 0", "about 7 = 0",
                "link 0 2 = 0", "link 1 2 = 1", "packet 0 0 = 1", "packet 0 3 = 0", "about 5 = 1");
        RUNS.run(LINE, "send 0 2", "undo = 1", "packet 0 0 = -2", "about 5 = 0");
        RUNS.run(LINE, "send 0 1", "send 0 1", "steps 2", "about 6 = 1", "undo = 1", "about 6 = 0",
                "about 5 = 2", "about 7 = 0", "packet 0 0 = 0", "packet 0 2 = -1", "packet 1 3 = 0");
    }

    private static void redo() {
        RUNS.sentence("14 REDO: true; false if there is none");
        RUNS.run(null, "redo = 0");
        RUNS.run(LINE, "redo = 0", "turn 0", "redo = 0", "undo", "redo = 1", "redo = 0", "about 9 = 1",
                "about 10 = 0");
        RUNS.sentence("14 REDO does that again which was taken back last: each kind of them");
        RUNS.run(LINE, "cut 1", "undo", "redo = 1", "link 1 3 = 0");
        RUNS.run(LINE, "cut 1", "mend 1", "undo", "undo", "redo = 1", "link 1 3 = 0", "redo = 1",
                "link 1 3 = 1");
        RUNS.run(LINE, "turn 1", "undo", "redo = 1", "link 1 2 = 2");
        RUNS.run(LINE, "orient 2", "undo", "redo = 1", "about 3 = 2", "link 0 2 = 1", "link 1 2 = 2");
        RUNS.run(SQUARE, "send 1 2", "change 3 1", "undo", "redo = 1", "about 3 = 3", "about 7 = 2",
                "link 0 2 = 1", "packet 0 0 = 3", "packet 0 3 = 1");
        RUNS.run(LINE, "send 0 2", "undo", "redo = 1", "packet 0 0 = 0", "packet 0 1 = 2");
        RUNS.run(LINE, "send 0 1", "send 0 1", "steps 2", "undo", "redo = 1", "about 6 = 1",
                "about 7 = 2", "packet 1 0 = 1", "packet 1 3 = 1");
        RUNS.sentence("14 taken back, done again, taken back");
        RUNS.run(LINE, "cut 0", "cut 1", "undo", "undo", "redo", "redo", "undo = 1", "about 2 = 1",
                "link 1 3 = 1", "redo = 1", "about 2 = 0", "undo", "undo", "about 2 = 2", "redo = 1",
                "link 0 3 = 0");
    }
}
