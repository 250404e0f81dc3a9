/** Promises 6 to 16 and 38 to 44: acts, what there is, packets, boxes. */
public final class ActPromisesTest {
    private static final Check CHECK = new Check();
    private static final String LINE = "switches 3;link 0 1;link 1 2;";
    private static final String LONG_LINE = "switches 4;link 0 1;link 1 2;link 2 3;";
    private static final String SQUARE = "switches 4;link 0 1;link 1 3;link 0 2;link 2 3;";
    private static final String TRIANGLE = "switches 3;link 0 1;link 1 2;link 0 2;";

    public static void main(String[] args) {
        cutAndMend();
        turnAndOrient();
        change();
        changeWithSteps();
        send();
        steps();
        room();
        packetsAndRules();
        undoAndRedo();
        twentyActs();
        refusedActs();
        nodes();
        links();
        game();
        drainsAndStuck();
        boxes();
        about();
        CHECK.close();
    }

    private static TurnNet net(String text) {
        TurnNet x = new TurnNet();
        Texts.tell(x, text);
        return x;
    }

    private static void cutAndMend() {
        TurnNet x = net(LINE);
        CHECK.due("6 cut(1)", x.cut(1), 1);
        CHECK.due("6 it is cut", x.cut(1), -1);
        CHECK.due("6 none such", x.cut(2), -1);
        CHECK.due("6 none such", x.cut(-1), -1);
        CHECK.due("6 cut(0)", x.cut(0), 0);
        CHECK.due("6 link(0, 3)", x.link(0, 3), 0);
        CHECK.due("7 mend(1)", x.mend(1), 1);
        CHECK.due("7 it stands", x.mend(1), -1);
        CHECK.due("7 none such", x.mend(2), -1);
        CHECK.due("7 none such", x.mend(-1), -1);
        CHECK.due("7 mend(0)", x.mend(0), 2);
        CHECK.due("7 link(0, 3)", x.link(0, 3), 1);
        CHECK.due("6, 7 acts", x.about(9), 4);
    }

    private static void turnAndOrient() {
        TurnNet x = net(LINE);
        CHECK.due("8 up end at first", x.link(1, 2), 1);
        CHECK.due("8 turn(1)", x.turn(1), 2);
        CHECK.due("8 up end then", x.link(1, 2), 2);
        CHECK.due("8 turn(1) again", x.turn(1), 1);
        CHECK.due("8 none such", x.turn(2), -1);
        CHECK.due("8 none such", x.turn(-1), -1);
        x.cut(0);
        CHECK.due("8 a cut one, too", x.turn(0), 1);
        x.mend(0);
        CHECK.due("9 by the root that is", x.orient(0), 1);
        CHECK.due("9 by another one", x.orient(2), 2);
        CHECK.due("9 the root", x.about(3), 2);
        CHECK.due("9 up ends", x.link(0, 2) * 10 + x.link(1, 2), 12);
        CHECK.due("9 once more", x.orient(2), 0);
        CHECK.due("9 none such", x.orient(3), -1);
        CHECK.due("9 none such", x.orient(-1), -1);
        CHECK.due("9 acts", x.about(9), 8);
        // Cut links are oriented, too: 2 is not reached then and is below 1, which is near.
        x.orient(0);
        x.cut(1);
        x.turn(1);
        CHECK.due("9 cut links, too", x.orient(0), 1);
        CHECK.due("9 cut links, too", x.link(1, 2), 1);
    }

    private static void change() {
        TurnNet x = net(SQUARE);
        CHECK.due("10 change(3, 0)", x.change(3, 0), 2);
        CHECK.due("10 the root", x.about(3), 3);
        CHECK.due("10 up end of 0", x.link(0, 2), 1);
        CHECK.due("10 up end of 1", x.link(1, 2), 3);
        CHECK.due("10 up end of 2", x.link(2, 2), 2);
        CHECK.due("10 up end of 3", x.link(3, 2), 3);
        CHECK.due("10 no steps", x.about(7), 0);
        CHECK.due("10 one act", x.about(9), 1);
        CHECK.due("10 no such switch", x.change(4, 0), -1);
        CHECK.due("10 no such switch", x.change(-1, 0), -1);
        CHECK.due("10 no such number", x.change(0, 21), -1);
        CHECK.due("10 no such number", x.change(0, -1), -1);
        CHECK.due("10 steps behind each phase", x.change(0, 20), 2);
        CHECK.due("10 steps behind each phase", x.about(7), 40);
        x = net(TRIANGLE);
        CHECK.due("10 there is no plan", x.change(2, 3), -2);
        CHECK.due("10 nothing was done", x.about(3) + x.about(7) + x.about(9), 0);
        CHECK.due("10 one phase", x.change(1, 3), 1);
        CHECK.due("10 steps", x.about(7), 3);
        x = net("switches 3;link 0 1;link 0 2;rank number;");
        CHECK.due("10 nothing flips", x.change(2, 5), 0);
        CHECK.due("10 the root is another one", x.about(3), 2);
        CHECK.due("10 no phase, no step", x.about(7), 0);
        CHECK.due("10 an act all the same", x.about(9), 1);
    }

    /** Between the phases both 0 and 3 lie low, so from 1 to 2 there is no way just then. */
    private static void changeWithSteps() {
        TurnNet x = net(SQUARE);
        x.send(1, 2);
        CHECK.due("39 by the rules at first", x.packet(0, 4), 1);
        CHECK.due("10 one step a phase", x.change(3, 1), 2);
        CHECK.due("10 two steps", x.about(7), 2);
        CHECK.due("10 it waited once", x.packet(0, 3), 1);
        CHECK.due("10 then it went to 3", x.packet(0, 0), 3);
        CHECK.due("10 by channel 2", x.packet(0, 2), 2);
    }

    private static void send() {
        TurnNet x = net(LINE);
        CHECK.due("11 to itself", x.send(1, 1), -1);
        CHECK.due("11 no such", x.send(3, 1), -1);
        CHECK.due("11 no such", x.send(1, 3), -1);
        CHECK.due("11 no such", x.send(-1, 1), -1);
        CHECK.due("11 no such", x.send(1, -1), -1);
        for (int i = 0; i < 12; i++) {
            CHECK.due("11 send", x.send(i == 4 ? 1 : 0, 2), i);
        }
        CHECK.due("11 there are 12", x.send(0, 2), -1);
        x.steps(1);
        CHECK.due("11 4 and 0 went on", x.packet(4, 0) * 10 + x.packet(0, 0), 21);
        x.steps(1);
        CHECK.due("11 4 left", x.packet(4, 0), -2);
        CHECK.due("11 the lowest that is not there", x.send(2, 0), 4);
        CHECK.due("11 its goal", x.packet(4, 1), 0);
        CHECK.due("11 came by none", x.packet(4, 2), -1);
        CHECK.due("11 waited not yet", x.packet(4, 3), 0);
    }

    private static void steps() {
        TurnNet x = net(LONG_LINE);
        CHECK.due("12 0", x.steps(0), -1);
        CHECK.due("12 51", x.steps(51), -1);
        CHECK.due("12 below", x.steps(-1), -1);
        CHECK.due("12 50", x.steps(50), 0);
        CHECK.due("12 without switches", new TurnNet().steps(1), -1);
        x = net(LONG_LINE);
        x.send(1, 0);
        CHECK.due("12 a move", x.steps(1), 1);
        x.send(0, 3);
        CHECK.due("12 one leaves, one moves", x.steps(1), 2);
        CHECK.due("12 arrived", x.about(6), 1);
        x.send(0, 3);
        // 0 has its turn ahead of 1, which still stands at the end of its channel.
        CHECK.due("12 by numbers", x.steps(1), 1);
        CHECK.due("12 0 waited", x.packet(0, 3), 1);
        CHECK.due("12 0 is where it was", x.packet(0, 0), 0);
        CHECK.due("12 1 went on", x.packet(1, 0), 2);
        CHECK.due("12 all the rest", x.steps(50), 6);
        CHECK.due("12 arrived", x.about(6), 3);
        CHECK.due("12 steps ever", x.about(7), 53);
        x = net(LINE);
        x.send(0, 2);
        x.send(0, 2);
        CHECK.due("12 1 is behind 0", x.steps(1), 1);
        CHECK.due("12 1 follows at once", x.steps(1), 2);
        CHECK.due("12 1 waited", x.packet(1, 3), 1);
    }

    private static void room() {
        for (int room = 1; room <= 3; room++) {
            TurnNet x = net(LINE + "room " + room + ";");
            for (int i = 0; i < 5; i++) {
                x.send(0, 2);
            }
            CHECK.due("12 as many as there is room", x.steps(1), room);
            CHECK.due("15 packets there", x.node(1, 4), room);
            CHECK.due("44 room", x.about(4), room);
        }
        // Room is counted by channel, not by switch.
        TurnNet x = net("switches 3;link 0 1;link 2 1;");
        x.send(0, 1);
        x.send(2, 1);
        CHECK.due("12 two channels to one switch", x.steps(1), 2);
        // One that was sent from there came by none.
        x = net(LINE);
        x.send(1, 2);
        x.send(0, 1);
        x.cut(1);
        CHECK.due("12 no way: waits; the other goes", x.steps(1), 1);
        CHECK.due("39 waited", x.packet(0, 3), 1);
    }

    private static void packetsAndRules() {
        TurnNet x = net(LINE);
        x.send(0, 2);
        x.steps(1);
        CHECK.due("39 it is at", x.packet(0, 0), 1);
        CHECK.due("39 its goal", x.packet(0, 1), 2);
        CHECK.due("39 came by", x.packet(0, 2), 0);
        CHECK.due("39 would go by", x.packet(0, 4), 2);
        CHECK.due("39 another what", x.packet(0, 5), -2);
        CHECK.due("39 another what", x.packet(0, -1), -2);
        CHECK.due("39 none such", x.packet(1, 0), -2);
        CHECK.due("39 none such", x.packet(12, 0), -2);
        CHECK.due("39 none such", x.packet(-1, 0), -2);
        x.turn(1);
        CHECK.due("39 no up one behind a down one", x.packet(0, 4), -1);
        CHECK.due("41 it is stuck", x.stuck(), 1);
        CHECK.due("40 for good", x.drains(), -1);
        x.turn(0);
        CHECK.due("39 it came by an up one now", x.packet(0, 4), 2);
        CHECK.due("40 drains", x.drains(), 2);
        x.steps(1);
        CHECK.due("39 at its goal", x.packet(0, 4), -1);
        x.send(1, 2);
        CHECK.due("39 full, it would go by it all the same", x.packet(1, 4), 2);
    }

    private static void undoAndRedo() {
        TurnNet x = net(LINE);
        CHECK.due("13 none", x.undo(), false);
        CHECK.due("14 none", x.redo(), false);
        x.cut(0);
        x.mend(0);
        x.turn(1);
        x.orient(2);
        x.change(0, 2);
        x.send(0, 2);
        x.steps(1);
        int[] before = picture(x);
        for (int i = 0; i < 7; i++) {
            CHECK.due("13 undo", x.undo(), true);
            CHECK.due("44 can be done again", x.about(10), i + 1);
            CHECK.due("44 can be taken back", x.about(9), 6 - i);
        }
        CHECK.due("13 no more", x.undo(), false);
        same("13 all is as at first", picture(x), picture(net(LINE)));
        for (int i = 0; i < 7; i++) {
            CHECK.due("14 redo", x.redo(), true);
        }
        CHECK.due("14 no more", x.redo(), false);
        same("14 all is as it was", picture(x), before);
        x.undo();
        CHECK.due("13 the step is taken back", x.packet(0, 0), 0);
        CHECK.due("13 steps ever, too", x.about(7), 2);
        x.undo();
        CHECK.due("13 nothing is sent", x.about(5), 0);
        CHECK.due("13 another act", x.turn(0), 1);
        CHECK.due("14 till another act", x.redo(), false);
        CHECK.due("44 none to be done again", x.about(10), 0);
    }

    /** Much of what there is but acts, in a row. */
    private static int[] picture(TurnNet x) {
        int[] row = new int[30];
        for (int i = 0; i < 9; i++) {
            row[i] = x.about(i);
        }
        for (int i = 0; i < 5; i++) {
            row[9 + i] = x.packet(0, i);
            row[14 + i] = x.node(1, i);
        }
        for (int i = 0; i < 4; i++) {
            row[19 + i] = x.link(0, i);
            row[23 + i] = x.link(1, i);
        }
        return row;
    }

    private static void same(String what, int[] got, int[] want) {
        for (int i = 0; i < got.length; i++) {
            CHECK.due(what + " [" + i + "]", got[i], want[i]);
        }
    }

    private static void twentyActs() {
        TurnNet x = net(LINE);
        for (int i = 0; i < 45; i++) {
            x.send(i % 2, 2);
            x.steps(3);
        }
        CHECK.due("13 20 at most are kept", x.about(9), 20);
        int arrived = x.about(6);
        for (int i = 0; i < 20; i++) {
            CHECK.due("13 undo", x.undo(), true);
        }
        CHECK.due("13 the oldest went", x.undo(), false);
        CHECK.due("13 ten sendings back", x.about(7), 35 * 3);
        CHECK.due("44 can be done again", x.about(10), 20);
        for (int i = 0; i < 20; i++) {
            CHECK.due("14 redo", x.redo(), true);
        }
        CHECK.due("14 all again", x.about(6), arrived);
        CHECK.due("14 all again", x.about(7), 45 * 3);
        x.undo();
        x.undo();
        x.turn(0);
        CHECK.due("13 kept then", x.about(9), 19);
        x.turn(0);
        x.turn(0);
        CHECK.due("13 kept then", x.about(9), 20);
    }

    private static void refusedActs() {
        TurnNet x = net(LINE);
        x.turn(0);
        x.turn(1);
        x.undo();
        x.cut(7);
        x.mend(0);
        x.turn(7);
        x.orient(7);
        x.change(7, 0);
        x.change(0, 77);
        x.send(1, 1);
        x.steps(0);
        x.back(0);
        x.image(0);
        x.game(0, 60, 0);
        CHECK.due("14 a refused one is no act", x.about(9), 1);
        CHECK.due("14 a refused one is no act", x.about(10), 1);
        CHECK.due("14 redo", x.redo(), true);
        CHECK.due("14 link 1 is turned", x.link(1, 2), 2);
    }

    private static void nodes() {
        TurnNet x = net("switches 5;link 3 0;link 0 1;link 1 2;root 3;rank 9-far;");
        CHECK.due("15 far", x.node(2, 0), 3);
        CHECK.due("15 not at all", x.node(4, 0), 10);
        CHECK.due("15 rank", x.node(2, 1), 6);
        CHECK.due("15 rank", x.node(4, 1), -1);
        CHECK.due("15 links", x.node(0, 2), 2);
        CHECK.due("15 above 4", x.node(4, 3), 0);
        CHECK.due("15 above 3", x.node(3, 3), 4);
        CHECK.due("15 above 1", x.node(1, 3), 2);
        CHECK.due("15 packets", x.node(1, 4), 0);
        x.send(1, 2);
        x.send(1, 3);
        CHECK.due("15 packets", x.node(1, 4), 2);
        CHECK.due("15 none such", x.node(5, 0), -2);
        CHECK.due("15 none such", x.node(-1, 0), -2);
        CHECK.due("15 another what", x.node(0, 5), -2);
        CHECK.due("15 another what", x.node(0, -1), -2);
        x.cut(1);
        CHECK.due("15 far, one cut", x.node(2, 0), 10);
        CHECK.due("15 links, one cut", x.node(1, 2), 1);
        CHECK.due("15 rank, one cut", x.node(2, 1), -1);
        x.orient(2);
        CHECK.due("15 far by another root", x.node(1, 0), 1);
        x = net("switches 3;link 0 1;link 1 2;rank 5;");
        CHECK.due("15 like ranks: by number", x.node(1, 3), 1);
        CHECK.due("16 like ranks: by number", x.link(1, 2), 1);
    }

    private static void links() {
        TurnNet x = net("switches 3;link 2 0;link 1 2;");
        CHECK.due("16 first", x.link(0, 0), 2);
        CHECK.due("16 other", x.link(0, 1), 0);
        CHECK.due("16 up", x.link(0, 2), 0);
        CHECK.due("16 up", x.link(1, 2), 2);
        CHECK.due("16 stands", x.link(1, 3), 1);
        CHECK.due("16 another what", x.link(1, 4), -1);
        CHECK.due("16 another what", x.link(1, -1), -1);
        CHECK.due("16 none such", x.link(2, 0), -1);
        CHECK.due("16 none such", x.link(-1, 0), -1);
    }

    /** The draws of seed 0 modulo 3: 2 0, 1 2, 2 0, 0 1, 1 1. */
    private static void game() {
        TurnNet x = net(LINE);
        CHECK.due("38 one sent", x.game(0, 1, 1), 1);
        CHECK.due("38 arrived in 3", x.game(0, 3, 0), 2);
        CHECK.due("38 packets behind 3", x.game(0, 3, 1), 1);
        CHECK.due("38 arrived in 5", x.game(0, 5, 0), 4);
        CHECK.due("38 packets behind 5", x.game(0, 5, 1), 0);
        CHECK.due("38 refused in 4", x.game(0, 4, 3), 0);
        CHECK.due("38 refused in 5", x.game(0, 5, 3), 1);
        CHECK.due("38 waits", x.game(0, 5, 2), 0);
        CHECK.due("38 nothing is done", x.about(5) + x.about(6) + x.about(7) + x.about(9), 0);
        CHECK.due("38 seed", x.game(-1, 1, 0), -1);
        CHECK.due("38 seed", x.game(10000, 1, 0), -1);
        CHECK.due("38 seed", x.game(9999, 1, 1), 1);
        CHECK.due("38 n", x.game(0, 0, 0), -1);
        CHECK.due("38 n", x.game(0, 61, 0), -1);
        CHECK.due("38 what", x.game(0, 1, 4), -1);
        CHECK.due("38 what", x.game(0, 1, -1), -1);
        CHECK.due("38 without switches", new TurnNet().game(0, 1, 0), -1);
        // From now on: what has arrived ahead of it does not count, who is there goes on.
        x.send(0, 1);
        x.steps(2);
        x.send(0, 1);
        CHECK.due("38 arrived in it", x.game(0, 5, 0), 5);
        x.undo();
        x.cut(0);
        x.cut(1);
        CHECK.due("38 all wait: 1 + 2 + 3 + 4 + 4", x.game(0, 5, 2), 14);
        CHECK.due("38 the same game, the same answer", x.game(0, 5, 2), 14);
        CHECK.due("38 all are there", x.game(0, 5, 1), 4);
        CHECK.due("38 12 at most", x.game(0, 60, 1), 12);
        CHECK.due("38 the others are refused", x.game(0, 60, 3), 48);
    }

    private static void drainsAndStuck() {
        TurnNet x = net(LINE);
        CHECK.due("40 now", x.drains(), 0);
        CHECK.due("41 none", x.stuck(), 0);
        x.send(0, 2);
        x.send(0, 2);
        x.send(2, 1);
        CHECK.due("40 behind 4", x.drains(), 4);
        CHECK.due("41 none", x.stuck(), 0);
        CHECK.due("40 nothing is done", x.about(5) * 10 + x.about(7), 30);
        x.cut(1);
        CHECK.due("41 all", x.stuck(), 7);
        CHECK.due("40 not by 200", x.drains(), -1);
        x.send(1, 0);
        CHECK.due("41 but 3", x.stuck(), 7);
        CHECK.due("41 nothing is done", x.about(5) * 10 + x.about(7), 40);
        CHECK.due("41 nothing is done", x.packet(0, 3), 0);
        CHECK.due("40 without switches", new TurnNet().drains(), 0);
        CHECK.due("41 without switches", new TurnNet().stuck(), 0);
    }

    private static void boxes() {
        TurnNet x = net(LINE);
        CHECK.due("43 nothing was kept", x.back(0), -1);
        CHECK.due("42 box 0", x.image(0), 0);
        x.turn(0);
        CHECK.due("43 box 0", x.back(0), 0);
        CHECK.due("43 box 0", x.link(0, 2), 0);
        x = net(LINE);
        CHECK.due("42 none such", x.image(2), -1);
        CHECK.due("42 none such", x.image(-1), -1);
        CHECK.due("43 none such", x.back(2), -1);
        CHECK.due("43 none such", x.back(-1), -1);
        x.send(0, 2);
        x.send(1, 2);
        x.steps(1);
        x.orient(2);
        x.cut(0);
        int[] kept = picture(x);
        CHECK.due("42 packets", x.image(1), 2);
        CHECK.due("42 acts stay", x.about(9), 5);
        x.mend(0);
        x.turn(1);
        x.orient(1);
        x.steps(5);
        x.undo();
        x.feed(1, 2, 3, 4, 5);
        CHECK.due("43 the other box", x.back(0), -1);
        CHECK.due("43 doing nothing", x.about(9), 8);
        CHECK.due("43 packets", x.back(1), 2);
        same("43 all is as it was kept", picture(x), kept);
        CHECK.due("43 nothing can be taken back", x.undo(), false);
        CHECK.due("43 or done again", x.redo(), false);
        CHECK.due("43 but the tape", x.about(11), 20);
        x.steps(9);
        CHECK.due("43 the box keeps it", x.back(1), 2);
        same("43 once more", picture(x), kept);
        x.mend(0);
        CHECK.due("42 kept anew", x.image(1), 2);
        x.cut(0);
        x.back(1);
        CHECK.due("43 as kept latest", x.link(0, 3), 1);
    }

    private static void about() {
        TurnNet x = net("switches 3;link 0 1;link 1 2;root 1;room 2;rank far+1;");
        x.send(0, 1);
        x.send(0, 2);
        x.steps(2);
        x.cut(0);
        x.turn(1);
        x.undo();
        x.feed(0, 0, 0, 0, 0);
        int[] about = {3, 2, 1, 1, 2, 1, 1, 2, 2, 4, 1, 20};
        for (int what = 0; what < about.length; what++) {
            CHECK.due("44 about(" + what + ")", x.about(what), about[what]);
        }
        CHECK.due("44 another what", x.about(12), -1);
        CHECK.due("44 another what", x.about(-1), -1);
    }
}
