/** Promises 17 to 37: ways, tables, loads, rings, plans, what would be. */
public final class WayPromisesTest {
    private static final Check CHECK = new Check();
    private static final String LINE = "switches 3;link 0 1;link 1 2;";
    private static final String SQUARE = "switches 4;link 0 1;link 1 3;link 0 2;link 2 3;";
    private static final String TRIANGLE = "switches 3;link 0 1;link 1 2;link 0 2;";
    /** Five in a ring, and one more at 2. */
    private static final String TAILED = "switches 6;link 0 1;link 1 2;link 2 3;link 3 4;link 4 0;"
            + "link 2 5;";

    public static void main(String[] args) {
        lengths();
        waysAndThrough();
        manyWays();
        table();
        loads();
        pairs();
        depends();
        rings();
        plans();
        rooted();
        without();
        apart();
        around();
        pivots();
        noSwitches();
        CHECK.close();
    }

    private static TurnNet net(String text) {
        TurnNet x = new TurnNet();
        Texts.tell(x, text);
        return x;
    }

    private static void lengths() {
        TurnNet x = net(TAILED);
        CHECK.due("17 to itself", x.length(3, 3), 0);
        CHECK.due("17 one", x.length(0, 4), 1);
        CHECK.due("17 not by 3, which lies low", x.length(2, 4), 3);
        CHECK.due("17 nor back", x.length(4, 2), 3);
        CHECK.due("17 four", x.length(5, 4), 4);
        CHECK.due("18 by 3", x.plain(2, 4), 2);
        CHECK.due("18 by 3", x.plain(5, 4), 3);
        CHECK.due("18 to itself", x.plain(5, 5), 0);
        x.cut(1);
        CHECK.due("17 no way", x.length(2, 4), -1);
        CHECK.due("18 but a plain one", x.plain(2, 4), 2);
        x.cut(2);
        CHECK.due("18 none", x.plain(5, 4), -1);
        CHECK.due("18 to itself", x.plain(5, 5), 0);
        CHECK.due("17 no such", x.length(6, 0), -1);
        CHECK.due("17 no such", x.length(0, 6), -1);
        CHECK.due("17 no such", x.length(-1, 0), -1);
        CHECK.due("17 no such", x.length(0, -1), -1);
        CHECK.due("18 no such", x.plain(6, 0), -1);
        CHECK.due("18 no such", x.plain(0, 6), -1);
        CHECK.due("18 no such", x.plain(-1, 0), -1);
        CHECK.due("18 no such", x.plain(0, -1), -1);
    }

    private static void waysAndThrough() {
        TurnNet x = net(SQUARE);
        CHECK.due("19 two", x.ways(0, 3), 2);
        CHECK.due("19 back", x.ways(3, 0), 2);
        CHECK.due("19 one", x.ways(1, 2), 1);
        CHECK.due("19 to itself", x.ways(2, 2), 1);
        CHECK.due("20 one of two", x.through(0, 3, 0), 1);
        CHECK.due("20 one of two", x.through(0, 3, 6), 1);
        CHECK.due("20 not back", x.through(0, 3, 1), 0);
        CHECK.due("20 all", x.through(1, 2, 4), 1);
        CHECK.due("20 to itself", x.through(2, 2, 4), 0);
        CHECK.due("20 no such channel", x.through(0, 3, 8), -1);
        CHECK.due("20 no such channel", x.through(0, 3, -1), -1);
        CHECK.due("20 no such switch", x.through(4, 3, 0), -1);
        CHECK.due("20 no such switch", x.through(0, -1, 0), -1);
        CHECK.due("19 no such", x.ways(4, 0), -1);
        CHECK.due("19 no such", x.ways(0, 4), -1);
        CHECK.due("19 no such", x.ways(-1, -1), -1);
        x.cut(0);
        CHECK.due("19 no way", x.ways(1, 0), 0);
        CHECK.due("20 no way", x.through(1, 0, 1), 0);
        CHECK.due("20 no way", x.through(1, 0, 2), 0);
        CHECK.due("19 one is left", x.ways(0, 3), 1);
        CHECK.due("20 cut", x.through(0, 3, 0), 0);
    }

    /** Two squares behind one another: two times two ways. */
    private static void manyWays() {
        TurnNet x = net("switches 7;link 0 1;link 0 2;link 1 3;link 2 3;link 3 4;link 3 5;"
                + "link 4 6;link 5 6;");
        CHECK.due("19 two times two", x.ways(0, 6), 4);
        CHECK.due("19 two times two", x.ways(6, 0), 4);
        CHECK.due("20 half", x.through(0, 6, 0), 2);
        CHECK.due("20 half", x.through(0, 6, 8), 2);
        CHECK.due("20 half", x.through(6, 0, 15), 2);
        CHECK.due("20 none", x.through(6, 0, 14), 0);
    }

    private static void table() {
        TurnNet x = net(SQUARE);
        // By goal, switch, state, as it is found by hand.
        int[] due = {
            -1, -1, 1, -1, 5, -1, 3, -1,
            0, 0, -1, -1, 5, -1, 3, -1,
            4, 4, 1, -1, -1, -1, 7, -1,
            0, 4, 2, 2, 6, 6, -1, -1,
        };
        for (int i = 0; i < due.length; i++) {
            CHECK.due("21 entry " + i, x.entry(i / 8, i / 2 % 4, i % 2), due[i]);
        }
        CHECK.due("21 none such", x.entry(4, 0, 0), -1);
        CHECK.due("21 none such", x.entry(-1, 0, 0), -1);
        CHECK.due("21 none such", x.entry(0, 4, 0), -1);
        CHECK.due("21 none such", x.entry(0, -1, 0), -1);
        CHECK.due("21 none such", x.entry(3, 0, 2), -1);
        CHECK.due("21 none such", x.entry(3, 0, -1), -1);
        CHECK.due("22 0 to 3", x.path(0, 3, 0), 0);
        CHECK.due("22 0 to 3", x.path(0, 3, 1), 2);
        CHECK.due("22 no more", x.path(0, 3, 2), -1);
        CHECK.due("22 far beyond", x.path(0, 3, Integer.MAX_VALUE), -1);
        CHECK.due("22 below", x.path(0, 3, -1), -1);
        CHECK.due("22 2 to 1", x.path(2, 1, 1), 0);
        CHECK.due("22 to itself", x.path(2, 2, 0), -1);
        CHECK.due("22 no such", x.path(4, 0, 0), -1);
        CHECK.due("22 no such", x.path(0, 4, 0), -1);
        CHECK.due("22 no such", x.path(-1, 0, 0), -1);
        x.cut(0);
        CHECK.due("21 by what stands", x.entry(3, 0, 0), 4);
        CHECK.due("22 no way", x.path(0, 1, 0), -1);
    }

    private static void loads() {
        TurnNet x = net(SQUARE);
        int[] due = {3, 3, 2, 2, 2, 2, 1, 1};
        for (int channel = 0; channel < due.length; channel++) {
            CHECK.due("23 load " + channel, x.load(channel), due[channel]);
        }
        CHECK.due("23 none such", x.load(8), -1);
        CHECK.due("23 none such", x.load(-1), -1);
        CHECK.due("24 the first", x.heaviest(0), 0);
        CHECK.due("24 its load", x.heaviest(1), 3);
        CHECK.due("24 another what", x.heaviest(2), -1);
        CHECK.due("24 another what", x.heaviest(-1), -1);
        CHECK.due("24 without links", net("switches 3;").heaviest(0), -1);
        CHECK.due("24 without links", net("switches 3;").heaviest(1), -1);
        x = net("switches 4;link 0 1;link 1 2;link 2 3;");
        CHECK.due("24 in the middle", x.heaviest(0), 2);
        CHECK.due("24 in the middle", x.heaviest(1), 4);
        CHECK.due("23 at the end", x.load(0), 3);
        x.cut(0);
        x.cut(1);
        x.cut(2);
        CHECK.due("24 all cut", x.heaviest(0), 0);
        CHECK.due("24 all cut", x.heaviest(1), 0);
    }

    private static void pairs() {
        TurnNet x = net(TAILED);
        CHECK.due("25 all have one", x.pairs(0), 0);
        CHECK.due("25 together", x.pairs(1), 56);
        CHECK.due("25 longer by", x.pairs(2), 4);
        CHECK.due("25 neither", x.pairs(3), 0);
        CHECK.due("25 another what", x.pairs(4), -1);
        CHECK.due("25 another what", x.pairs(-1), -1);
        x = net(SQUARE);
        x.cut(0);
        CHECK.due("25 no way", x.pairs(0), 4);
        CHECK.due("25 together", x.pairs(1), 10);
        CHECK.due("25 not longer", x.pairs(2), 0);
        CHECK.due("25 plain ones", x.pairs(3), 0);
        x.cut(1);
        CHECK.due("25 no way", x.pairs(0), 6);
        CHECK.due("25 nor a plain one", x.pairs(3), 6);
    }

    private static void depends() {
        TurnNet x = net(SQUARE);
        CHECK.due("26 down, down", x.depends(0, 2), 1);
        CHECK.due("26 up, down", x.depends(1, 4), 1);
        CHECK.due("26 up, up", x.depends(3, 1), 1);
        CHECK.due("26 down, up", x.depends(2, 7), 0);
        CHECK.due("26 of one link", x.depends(3, 2), 0);
        CHECK.due("26 of one link", x.depends(1, 0), 0);
        CHECK.due("26 elsewhere", x.depends(0, 6), 0);
        CHECK.due("26 itself", x.depends(0, 0), 0);
        CHECK.due("26 none such", x.depends(8, 0), -1);
        CHECK.due("26 none such", x.depends(0, 8), -1);
        CHECK.due("26 none such", x.depends(-1, 0), -1);
        CHECK.due("26 none such", x.depends(0, -1), -1);
        x.turn(3);
        CHECK.due("26 turned over", x.depends(2, 7), 1);
        x.cut(0);
        CHECK.due("26 cut", x.depends(0, 2), 0);
        CHECK.due("26 cut", x.depends(3, 1), 0);
    }

    private static void rings() {
        TurnNet x = net(SQUARE);
        CHECK.due("27 none", x.rings(), 0);
        CHECK.due("28 none", x.ring(0), -1);
        x.turn(0);
        x.turn(1);
        CHECK.due("27 both ways round", x.rings(), 8);
        CHECK.due("28 four", x.ring(0), 4);
        CHECK.due("28 four", x.ring(7), 4);
        CHECK.due("28 none such", x.ring(8), -1);
        CHECK.due("28 none such", x.ring(-1), -1);
        x.cut(2);
        CHECK.due("27 cut", x.rings(), 0);
        CHECK.due("28 cut", x.ring(0), -1);
        // Three in a ring with a tail: what leads into it is in none.
        x = net("switches 4;link 0 1;link 1 2;link 0 2;link 2 3;");
        x.turn(2);
        CHECK.due("27 three, both ways round", x.rings(), 6);
        CHECK.due("28 three", x.ring(4), 3);
        CHECK.due("28 the tail", x.ring(6), -1);
        CHECK.due("28 the tail", x.ring(7), -1);
    }

    private static void plans() {
        TurnNet x = net(SQUARE);
        CHECK.due("29 all flip", x.plan(3, 0), 4);
        CHECK.due("29 in two", x.plan(3, 1), 2);
        int[] phases = {0, 1, 0, 1};
        for (int link = 0; link < 4; link++) {
            CHECK.due("30 phase of " + link, x.phase(3, link), phases[link]);
        }
        CHECK.due("29 none flip", x.plan(0, 0), 0);
        CHECK.due("29 in none", x.plan(0, 1), 0);
        CHECK.due("30 in none", x.phase(0, 0), -1);
        CHECK.due("29 no such", x.plan(4, 0), -1);
        CHECK.due("29 no such", x.plan(-1, 1), -1);
        CHECK.due("29 another what", x.plan(3, 2), -1);
        CHECK.due("29 another what", x.plan(3, -1), -1);
        CHECK.due("30 no such", x.phase(4, 0), -1);
        CHECK.due("30 no such", x.phase(-1, 0), -1);
        CHECK.due("30 no such", x.phase(3, 4), -1);
        CHECK.due("30 no such", x.phase(3, -1), -1);
        CHECK.due("29 nothing is done", x.link(0, 2) + x.about(3) + x.about(9), 0);
        x = net(TRIANGLE);
        CHECK.due("29 flip", x.plan(2, 0), 2);
        CHECK.due("29 there is no plan", x.plan(2, 1), -2);
        CHECK.due("30 there is no plan", x.phase(2, 1), -1);
        CHECK.due("29 one", x.plan(1, 1), 1);
        CHECK.due("30 one", x.phase(1, 0), 0);
        CHECK.due("30 not this one", x.phase(1, 1), -1);
        x.turn(0);
        x.turn(1);
        x.turn(2);
        CHECK.due("29 those that are another one", x.plan(2, 0), 1);
        CHECK.due("29 those that are another one", x.plan(0, 0), 3);
        // A ring that is there already forbids all, a cut link that has no turns, too.
        x = net("switches 5;link 0 1;link 1 2;link 0 2;link 3 4;");
        x.turn(2);
        x.cut(3);
        x.turn(3);
        CHECK.due("29 two are to flip", x.plan(0, 0), 2);
        CHECK.due("29 a ring is there", x.plan(0, 1), -2);
        x.cut(0);
        CHECK.due("29 no ring now: 1 2, 0 2, 3 4", x.plan(0, 1), 1);
        CHECK.due("30 a cut one flips, too", x.phase(0, 3), 0);
    }

    private static void rooted() {
        TurnNet x = net(TAILED);
        int[] together = {56, 54, 54, 56, 54, 54};
        for (int root = 0; root < 6; root++) {
            CHECK.due("31 together by " + root, x.rooted(root, 1), together[root]);
            CHECK.due("31 no way by " + root, x.rooted(root, 0), 0);
        }
        CHECK.due("32 least together", x.best(1), 1);
        CHECK.due("32 all alike", x.best(0), 0);
        CHECK.due("31 nothing is done", x.pairs(1) * 10 + x.about(3), 560);
        x = net("switches 3;link 0 1;link 0 2;rank 0-far;");
        CHECK.due("31 0 lies low", x.rooted(0, 0), 2);
        CHECK.due("31 1 does not", x.rooted(1, 0), 0);
        CHECK.due("31 together", x.rooted(0, 1), 4);
        CHECK.due("31 together", x.rooted(2, 1), 8);
        CHECK.due("31 greatest load", x.rooted(0, 2), 1);
        CHECK.due("31 greatest load", x.rooted(1, 2), 2);
        CHECK.due("32 fewest without a way", x.best(0), 1);
        CHECK.due("32 least load", x.best(2), 0);
        x = net("switches 3;link 0 1;link 1 2;rank 0-far;");
        CHECK.due("32 least load", x.best(2), 1);
        CHECK.due("31 no such", x.rooted(3, 0), -1);
        CHECK.due("31 no such", x.rooted(-1, 0), -1);
        CHECK.due("31 another what", x.rooted(0, 3), -1);
        CHECK.due("31 another what", x.rooted(0, -1), -1);
        CHECK.due("32 another what", x.best(3), -1);
        CHECK.due("32 another what", x.best(-1), -1);
        CHECK.due("31 without links", net("switches 3;").rooted(1, 2), 0);
        CHECK.due("31 without links", net("switches 3;").rooted(1, 0), 6);
    }

    private static void without() {
        TurnNet x = net(SQUARE);
        CHECK.due("33 the rules staying", x.without(0, 0), 4);
        CHECK.due("33 oriented anew", x.without(0, 1), 0);
        CHECK.due("33 how many turn", x.without(0, 2), 1);
        CHECK.due("33 without 1", x.without(1, 0), 0);
        CHECK.due("33 another what", x.without(0, 3), -1);
        CHECK.due("33 another what", x.without(0, -1), -1);
        CHECK.due("33 none such", x.without(4, 0), -1);
        CHECK.due("33 none such", x.without(-1, 0), -1);
        CHECK.due("33 nothing is done", x.about(2) * 10 + x.about(9), 40);
        CHECK.due("34 of like ones the first", x.dearest(), 0);
        x.turn(1);
        CHECK.due("33 as it is turned already", x.without(0, 2), 0);
        x.undo();
        x.cut(0);
        CHECK.due("33 it is cut", x.without(0, 0), -1);
        CHECK.due("33 it is cut", x.without(0, 2), -1);
        CHECK.due("33 then without 1", x.without(1, 0), 6);
        CHECK.due("33 then without 2", x.without(2, 0), 8);
        CHECK.due("33 then without 3", x.without(3, 0), 8);
        CHECK.due("34 then", x.dearest(), 2);
        x.cut(1);
        x.cut(2);
        x.cut(3);
        CHECK.due("34 none stands", x.dearest(), -1);
        x = net("switches 4;link 1 3;link 0 1;link 0 2;link 2 3;");
        CHECK.due("34 not the first", x.dearest(), 1);
    }

    private static void apart() {
        TurnNet x = net(SQUARE);
        CHECK.due("35 two", x.apart(0, 3), 2);
        CHECK.due("35 two, lawful or not", x.apart(1, 2), 2);
        CHECK.due("35 the same", x.apart(1, 1), -1);
        CHECK.due("35 none such", x.apart(4, 1), -1);
        CHECK.due("35 none such", x.apart(1, 4), -1);
        CHECK.due("35 none such", x.apart(-1, 1), -1);
        CHECK.due("35 none such", x.apart(1, -1), -1);
        x.cut(3);
        CHECK.due("35 one", x.apart(0, 3), 1);
        x.cut(1);
        CHECK.due("35 none", x.apart(0, 3), 0);
        // The shortest row of all, 0 1 3 5, takes a link of each of the two there are.
        x = net("switches 6;link 0 1;link 1 3;link 3 5;link 0 2;link 2 3;link 1 4;link 4 5;");
        CHECK.due("35 one gives way", x.apart(0, 5), 2);
        CHECK.due("35 one gives way", x.apart(5, 0), 2);
        // A link is taken, given back and taken again: four rows, as 1 and 5 have four links each.
        x = net("switches 8;link 4 3;link 3 1;link 1 6;link 2 6;link 2 4;link 5 0;link 3 0;link 2 1;"
                + "link 5 7;link 4 5;link 5 6;link 2 0;link 1 0;link 6 7;link 3 2;");
        CHECK.due("35 taken again", x.apart(1, 5), 4);
        CHECK.due("35 taken again", x.apart(5, 1), 4);
        x = net("switches 8;link 3 4;link 1 3;link 6 1;link 6 2;link 4 2;link 0 5;link 0 3;link 1 2;"
                + "link 7 5;link 5 4;link 6 5;link 0 2;link 0 1;link 7 6;link 2 3;");
        CHECK.due("35 taken again, told the other way", x.apart(1, 5), 4);
        CHECK.due("35 taken again, told the other way", x.apart(5, 1), 4);
        x = net("switches 6;link 1 0;link 3 1;link 5 3;link 2 0;link 3 2;link 4 1;link 5 4;");
        CHECK.due("35 told the other way", x.apart(0, 5), 2);
        CHECK.due("35 told the other way", x.apart(5, 0), 2);
    }

    private static void around() {
        TurnNet x = net(SQUARE);
        CHECK.due("36 none", x.around(0, 1, 0), -1);
        CHECK.due("36 three", x.around(1, 3, 1), 3);
        CHECK.due("36 another link", x.around(1, 3, 3), 1);
        CHECK.due("36 to itself", x.around(2, 2, 3), 0);
        CHECK.due("36 no such link", x.around(0, 1, 4), -1);
        CHECK.due("36 no such link", x.around(0, 1, -1), -1);
        CHECK.due("36 no such switch", x.around(4, 1, 0), -1);
        CHECK.due("36 no such switch", x.around(1, -1, 0), -1);
        CHECK.due("36 nothing is done", x.length(0, 1), 1);
        x.cut(1);
        CHECK.due("36 it is cut", x.around(0, 2, 1), -1);
        CHECK.due("36 two are cut", x.around(1, 2, 2), -1);
    }

    private static void pivots() {
        TurnNet x = net(SQUARE);
        CHECK.due("37 none", x.pivots(), 0);
        x.cut(0);
        CHECK.due("37 2 and 3", x.pivots(), 12);
        x.cut(2);
        CHECK.due("37 3", x.pivots(), 8);
        x.cut(3);
        CHECK.due("37 none", x.pivots(), 0);
        CHECK.due("37 the middle", net(LINE).pivots(), 2);
        CHECK.due("37 the one with a tail", net(TAILED).pivots(), 4);
        CHECK.due("37 without links", net("switches 3;").pivots(), 0);
    }

    private static void noSwitches() {
        TurnNet x = new TurnNet();
        CHECK.due("17", x.length(0, 0), -1);
        CHECK.due("18", x.plain(0, 0), -1);
        CHECK.due("19", x.ways(0, 0), -1);
        CHECK.due("20", x.through(0, 0, 0), -1);
        CHECK.due("21", x.entry(0, 0, 0), -1);
        CHECK.due("22", x.path(0, 0, 0), -1);
        CHECK.due("23", x.load(0), -1);
        CHECK.due("24", x.heaviest(0), -1);
        CHECK.due("25", x.pairs(0) + x.pairs(1) + x.pairs(2) + x.pairs(3), 0);
        CHECK.due("26", x.depends(0, 0), -1);
        CHECK.due("27", x.rings(), 0);
        CHECK.due("28", x.ring(0), -1);
        CHECK.due("29", x.plan(0, 0), -1);
        CHECK.due("30", x.phase(0, 0), -1);
        CHECK.due("31", x.rooted(0, 0), -1);
        CHECK.due("32", x.best(0), -1);
        CHECK.due("33", x.without(0, 0), -1);
        CHECK.due("34", x.dearest(), -1);
        CHECK.due("35", x.apart(0, 1), -1);
        CHECK.due("36", x.around(0, 0, 0), -1);
        CHECK.due("37", x.pivots(), 0);
    }
}
