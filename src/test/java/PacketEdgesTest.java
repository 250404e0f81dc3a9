/** The boundaries of games, packets, boxes and what is told about it all: promises 38 to 44. */
public final class PacketEdgesTest {
    private static final Runs RUNS = new Runs();
    private static final String BARE = "switches 3;";
    private static final String TWO = "switches 2;link 0 1;";
    private static final String LINE = "switches 3;link 0 1;link 1 2;";
    private static final String FIVE = "switches 5;link 0 1;link 1 2;link 2 3;link 3 4;link 4 0;";
    private static final String TEN = "switches 10;link 0 1;link 1 2;link 2 3;link 3 4;link 4 5;"
            + "link 5 6;link 6 7;link 7 8;link 8 9;";

    public static void main(String[] args) {
        gameArguments();
        gameDraws();
        gameSends();
        gameFromNowOn();
        gameCounts();
        packet();
        packetWouldGo();
        drains();
        stuck();
        roomsInARing();
        image();
        back();
        boxesAndNets();
        about();
        aboutNumbers();
        lastCall();
        RUNS.close();
    }

    private static String[] times(int count, String call) {
        String[] calls = new String[count];
        java.util.Arrays.fill(calls, call);
        return calls;
    }

    private static void gameArguments() {
        RUNS.sentence("38 a GAME of n (1 .. 60)");
        RUNS.run(LINE, "game 0 1 1 = 1", "game 0 0 1 = -1", "game 0 61 1 = -1", "game 0 -1 1 = -1",
                "game 0 most 1 = -1", "game 0 least 1 = -1");
        RUNS.run(BARE, "game 0 60 1 = 12", "game 0 61 1 = -1");
        RUNS.sentence("38 by a seed (0 .. 9,999)");
        RUNS.run(LINE, "game 0 1 3 = 0", "game 9999 1 3 = 0", "game -1 1 3 = -1", "game 10000 1 3 = -1",
                "game 10006 1 3 = -1", "game 10007 1 3 = -1", "game most 1 3 = -1", "game least 1 3 = -1");
        RUNS.sentence("38 NONE for another what");
        RUNS.run(LINE, "game 0 1 0 = 0", "game 0 1 3 = 0", "game 0 1 4 = -1", "game 0 1 -1 = -1",
                "game 0 1 most = -1", "game 0 1 least = -1");
        RUNS.sentence("38 NONE without SWITCHES");
        RUNS.run(null, "game 0 1 0 = -1", "game 0 1 1 = -1", "game 0 1 2 = -1", "game 0 1 3 = -1");
        RUNS.run("", "game 0 1 0 = -1");
    }

    /**
     * The draws of seed 0: 71, 9798, 1459, 9821, 4610, 1200, 4359, 6841, 6637, 8710;
     * those of seed 9999: 8982, 9751.
     */
    private static void gameDraws() {
        RUNS.sentence("38 x becomes 137 times x and 71 more, modulo 10,007; it is x");
        RUNS.run(TWO, "game 0 1 1 = 1", "game 0 1 3 = 0", "game 0 2 3 = 1", "game 0 3 3 = 2",
                "game 0 4 3 = 3", "game 0 5 3 = 3", "game 0 5 1 = 1", "game 0 5 0 = 1");
        RUNS.sentence("38 modulo how many SWITCHES there are, from the first to the second one");
        RUNS.run(LINE, "cut 0", "game 9999 1 2 = 1", "mend 0", "cut 1", "game 9999 1 2 = 0",
                "game 0 1 2 = 1", "game 0 2 2 = 3", "game 0 3 2 = 6", "game 0 4 2 = 9");
        RUNS.run("switches 10;link 1 8;", "game 0 1 2 = 0", "game 9999 1 2 = 1");
        RUNS.run("switches 10;link 2 1;", "game 0 1 2 = 1", "game 9999 1 2 = 0");
    }

    private static void gameSends() {
        RUNS.sentence("38 a PACKET is sent, if it can be: not to itself");
        RUNS.run(LINE, "game 0 4 3 = 0", "game 0 5 3 = 1");
        RUNS.sentence("38 a PACKET is sent, if it can be: not if there are 12");
        TurnNet x = Runs.made(BARE);
        RUNS.go(x, times(11, "send 0 1"));
        RUNS.go(x, "game 0 1 3 = 0", "game 0 1 1 = 12", "game 0 1 2 = 12", "send 0 1 = 11",
                "game 0 1 3 = 1", "game 0 1 1 = 12", "game 0 1 2 = 12", "game 0 60 3 = 60",
                "game 0 60 2 = 720");
        RUNS.sentence("38 then a STEP is done (though none could be sent)");
        RUNS.run(TWO, "game 0 1 0 = 0", "game 0 2 0 = 1", "game 0 2 3 = 1");
    }

    private static void gameFromNowOn() {
        RUNS.sentence("38 from now on: PACKETS that are there go on, too");
        RUNS.run(LINE, "send 0 1", "game 0 1 1 = 2", "game 0 2 0 = 1", "steps 1", "game 0 1 0 = 1");
        RUNS.sentence("38 in it: who ARRIVED, or WAITED ahead of it, does not count");
        RUNS.run(LINE, "send 0 1", "steps 2", "about 6 = 1", "game 0 1 0 = 0");
        RUNS.run(BARE, "send 0 1", "steps 9", "packet 0 3 = 9", "game 0 1 2 = 2");
        RUNS.sentence("38 (Nothing is done.)");
        RUNS.run(LINE, "send 0 2", "turn 0", "undo", "game 0 60 0", "game 77 60 1", "game 9 30 2",
                "packet 0 0 = 0", "packet 0 3 = 0", "about 5 = 1", "about 6 = 0", "about 7 = 0",
                "about 9 = 1", "about 10 = 1");
    }

    private static void gameCounts() {
        RUNS.sentence("38 who is sent ARRIVED, is there at its end, or could not be sent");
        for (int seed = 0; seed < 10000; seed += 1111) {
            for (String text : new String[] {TWO, LINE, FIVE, TEN, BARE}) {
                TurnNet x = Runs.made(text);
                int all = x.game(seed, 60, 0) + x.game(seed, 60, 1) + x.game(seed, 60, 3);
                RUNS.due("seed " + seed + " of '" + text + "'", all, 60);
            }
        }
    }

    private static void packet() {
        RUNS.sentence("39 -2 if there is none such");
        TurnNet x = Runs.made(LINE);
        RUNS.go(x, "packet 0 0 = -2", "packet 0 4 = -2");
        RUNS.go(x, times(12, "send 0 1"));
        RUNS.go(x, "packet 0 0 = 0", "packet 11 0 = 0", "packet 12 0 = -2", "packet -1 0 = -2",
                "packet most 0 = -2", "packet least 0 = -2", "steps 2", "packet 0 0 = -2",
                "packet 0 1 = -2", "packet 0 2 = -2", "packet 0 3 = -2", "packet 0 4 = -2",
                "packet 1 0 = 1");
        RUNS.run(null, "packet 0 0 = -2");
        RUNS.sentence("39 -2 for another what");
        RUNS.run(LINE, "send 0 1", "packet 0 4 = 0", "packet 0 5 = -2", "packet 0 -1 = -2",
                "packet 0 most = -2", "packet 0 least = -2");
        RUNS.sentence("39 2: the CHANNEL by which it came (NONE)");
        RUNS.run(LINE, "send 0 2", "packet 0 2 = -1", "steps 1", "packet 0 2 = 0", "cut 0",
                "packet 0 2 = 0");
    }

    private static void packetWouldGo() {
        RUNS.sentence("39 4: the CHANNEL it would go by (NONE)");
        RUNS.run(LINE, "send 0 2", "packet 0 4 = 0", "cut 1", "packet 0 4 = -1", "mend 1", "steps 1",
                "packet 0 4 = 2", "steps 1", "packet 0 4 = -1");
        RUNS.sentence("39 4: the TABLE's entry, though there is no ROOM just then");
        RUNS.run(LINE, "send 0 2", "send 0 2", "steps 1", "packet 1 4 = 0", "packet 1 3 = 1");
    }

    /**
     * Behind 120 STEPS all that can leave has left (12 PACKETS, nine CHANNELS and the leaving of each,
     * someone moves in each STEP or nobody ever will), so the 200 have no other side to be told.
     */
    private static void drains() {
        RUNS.sentence("40 behind how many STEPS from now on (0: now) no PACKET is there");
        RUNS.run(LINE, "drains = 0", "send 0 1", "drains = 2", "steps 1", "drains = 1", "steps 1",
                "drains = 0");
        RUNS.run(null, "drains = 0");
        TurnNet x = Runs.made(TEN);
        RUNS.go(x, times(12, "send 0 9"));
        RUNS.go(x, "drains = 21", "about 5 = 12", "about 7 = 0", "steps 20", "about 5 = 1",
                "drains = 1", "steps 1", "drains = 0");
        RUNS.sentence("40 NONE if not by 200");
        RUNS.run(LINE, "send 0 2", "cut 1", "drains = -1", "send 1 0", "drains = -1", "mend 1",
                "drains = 3");
        RUNS.sentence("40 (Nothing is done.)");
        RUNS.run(LINE, "send 0 2", "turn 0", "undo", "drains = 3", "packet 0 0 = 0", "packet 0 3 = 0",
                "about 5 = 1", "about 6 = 0", "about 7 = 0", "about 9 = 1", "about 10 = 1");
    }

    private static void stuck() {
        RUNS.sentence("41 PACKETS that would be there behind 200 STEPS, as bits");
        RUNS.run(null, "stuck = 0");
        RUNS.run(LINE, "stuck = 0", "send 0 2", "stuck = 0", "cut 1", "stuck = 1", "send 0 1",
                "stuck = 1", "send 2 0", "stuck = 5");
        TurnNet x = Runs.made(LINE);
        RUNS.go(x, times(11, "send 0 1"));
        RUNS.go(x, "send 0 2 = 11", "stuck = 0", "cut 1", "stuck = 2048", "cut 0", "stuck = 4095");
        RUNS.sentence("41 (Nothing is done.)");
        RUNS.run(LINE, "send 0 2", "turn 0", "undo", "stuck = 0", "packet 0 0 = 0", "packet 0 3 = 0",
                "about 5 = 1", "about 6 = 0", "about 7 = 0", "about 9 = 1", "about 10 = 1");
    }

    /** Each goes two links round a ring: with one room each waits for the next one, for good. */
    private static void roomsInARing() {
        String[] calls = {"turn 0", "turn 1", "turn 2", "rings = 10", "send 0 2", "send 1 3", "send 2 4",
            "send 3 0", "send 4 1", "steps 1 = 5"};
        RUNS.sentence("40, 41 rooms that are full, who stands still");
        TurnNet x = Runs.made(FIVE);
        RUNS.go(x, calls);
        RUNS.go(x, "packet 0 4 = 2", "steps 1 = 0", "drains = -1", "stuck = 31", "packet 4 3 = 1");
        x = Runs.made(FIVE + "room 2;");
        RUNS.go(x, calls);
        RUNS.go(x, "drains = 2", "stuck = 0", "steps 1 = 5", "steps 1 = 5", "about 6 = 5");
    }

    private static void image() {
        RUNS.sentence("42 kept in a BOX (0, 1): PACKETS that are there; NONE if there is none such");
        RUNS.run(LINE, "image 0 = 0", "send 0 2", "image 1 = 1", "send 0 2", "image 0 = 2",
                "image 2 = -1", "image -1 = -1", "image most = -1", "image least = -1", "back 1 = 1",
                "back 0 = 2");
        RUNS.run(null, "image 0 = 0", "image 1 = 0", "image 2 = -1", "image -1 = -1");
        RUNS.sentence("42 what is kept stays as it was, whatever is done then");
        RUNS.run(LINE, "send 0 2", "image 0", "steps 3", "undo", "undo", "cut 0", "cut 1", "turn 0",
                "orient 2", "back 0 = 1", "about 2 = 2", "about 3 = 0", "about 7 = 0", "link 0 2 = 0",
                "packet 0 0 = 0");
    }

    private static void back() {
        RUNS.sentence("43 NONE, doing nothing, if nothing was");
        RUNS.run(LINE, "turn 0", "turn 1", "undo", "back 0 = -1", "back 1 = -1", "image 1", "back 0 = -1",
                "link 0 2 = 1", "about 9 = 1", "about 10 = 1", "redo = 1");
        RUNS.run(null, "back 0 = -1", "back 1 = -1", "image 1", "back 0 = -1", "back 1 = 0");
        RUNS.sentence("43 NONE, doing nothing, if there is no such BOX");
        RUNS.run(LINE, "image 0", "image 1", "turn 0", "back 2 = -1", "back -1 = -1", "back most = -1",
                "back least = -1", "link 0 2 = 1", "about 9 = 1");
        RUNS.sentence("43 all is as it was kept: PACKETS that are there");
        RUNS.run(LINE, "send 0 1", "send 0 2", "steps 2", "cut 1", "turn 0", "orient 2", "image 0 = 1",
                "mend 1", "steps 3", "orient 1", "packet 1 3 = 4", "back 0 = 1", "about 2 = 1",
                "about 3 = 2", "about 6 = 1", "about 7 = 2", "packet 1 0 = 1", "packet 1 3 = 1");
        RUNS.sentence("43 (nothing can be taken back, or done again then)");
        RUNS.run(LINE, "image 0", "turn 0", "turn 1", "undo", "about 9 = 1", "about 10 = 1", "back 0 = 0",
                "about 9 = 0", "about 10 = 0", "undo = 0", "redo = 0", "turn 0 = 1", "undo = 1",
                "link 0 2 = 0");
        RUNS.sentence("43 a BOX stays, the TAPE is not in it");
        RUNS.run(LINE, "feed 0 0 0 0 0", "image 0", "end 5", "cut 0", "back 0 = 0", "about 11 = 5",
                "cut 0", "cut 1", "back 0 = 0", "about 2 = 2", "about 11 = 5");
    }

    private static void boxesAndNets() {
        RUNS.sentence("42, 43 BOXES are empty behind net(), but not behind a FAULT");
        RUNS.run(LINE, "image 0", "image 1", "tell " + LINE + " = 3", "back 0 = -1", "back 1 = -1");
        RUNS.run(LINE, "image 0", "image 1", "net = 0", "back 0 = -1", "back 1 = -1");
        RUNS.run(LINE, "send 0 1", "image 0", "tell x = -1", "undo", "back 0 = 1", "about 5 = 1");
        RUNS.run(null, "image 0", "tell " + LINE + " = 3", "back 0 = -1", "about 0 = 3");
    }

    private static void about() {
        RUNS.sentence("44 NONE for another what");
        RUNS.run(LINE, "about 0 = 3", "about 11 = 0", "about 12 = -1", "about -1 = -1",
                "about most = -1", "about least = -1");
        RUNS.run(null, "about 12 = -1", "about -1 = -1");
        RUNS.sentence("44 3: the ROOT (NONE without SWITCHES)");
        RUNS.run(null, "about 3 = -1");
        RUNS.run("", "about 3 = -1");
        RUNS.run(BARE, "about 3 = 0");
        RUNS.run(LINE + "root 2;", "about 3 = 2", "orient 1", "about 3 = 1", "net = 0", "about 3 = -1");
    }

    private static void aboutNumbers() {
        RUNS.sentence("44 each of them");
        RUNS.run("switches 3;link 0 1;link 1 2;root 1;room 2;rank far+1;", "send 0 1", "send 0 2",
                "steps 2", "cut 0", "turn 1", "undo", "feed 0 0 0 0 0", "about 0 = 3", "about 1 = 2",
                "about 2 = 1", "about 3 = 1", "about 4 = 2", "about 5 = 1", "about 6 = 1", "about 7 = 2",
                "about 8 = 2", "about 9 = 4", "about 10 = 1", "about 11 = 20");
        RUNS.sentence("44 7: STEPS ever: those of games and of what would be are none");
        RUNS.run(LINE, "send 0 2", "game 0 60 0", "drains", "stuck", "about 7 = 0", "steps 50",
                "steps 1", "about 7 = 51", "change 2 7 = 1", "about 7 = 58", "change 2 7 = 0",
                "about 7 = 58");
        RUNS.sentence("44 7: STEPS ever: net() leaves them, UNDO and back() take them back");
        RUNS.run(LINE, "steps 4", "tell " + TWO + " = 2", "about 7 = 4", "steps 3", "about 7 = 7",
                "undo", "about 7 = 4", "image 0", "steps 9", "about 7 = 13", "back 0", "about 7 = 4");
    }

    /** More than 512 calls are not promised; so many are. */
    private static void lastCall() {
        RUNS.sentence("An object is used for at most 512 calls");
        TurnNet x = new TurnNet();
        for (int[] row : Texts.rows(LINE)) {
            x.feed(row[0], row[1], row[2], row[3], row[4]);
        }
        x.end(LINE.length());
        x.net();
        int calls = Texts.rows(LINE).size() + 2;
        for (; calls < Runs.MOST_CALLS - 4; calls++) {
            x.steps(50);
        }
        RUNS.go(x, "about 9 = 20", "undo = 1", "about 7 = " + (calls - 5) * 50, "redo = 1");
        RUNS.due("calls in all", calls + 4, Runs.MOST_CALLS);
    }
}
