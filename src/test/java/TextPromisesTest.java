/** Promises 1 to 5: a new object, the tape, the net, its faults. */
public final class TextPromisesTest {
    private static final Check CHECK = new Check();

    public static void main(String[] args) {
        newObject();
        tape();
        behindTheEnd();
        netUponNet();
        goodTexts();
        faults();
        faultsOfFormulas();
        tooMany();
        faultLeavesAll();
        netBeginsAnew();
        ranks();
        CHECK.close();
    }

    private static void good(String text, int switches) {
        TurnNet x = new TurnNet();
        CHECK.due("4 net of '" + text + "'", Texts.tell(x, text), switches);
        CHECK.due("5 fault(0) of '" + text + "'", x.fault(0), 0);
        CHECK.due("5 fault(1) of '" + text + "'", x.fault(1), -1);
    }

    private static void bad(String text, int kind, int place) {
        TurnNet x = new TurnNet();
        CHECK.due("4 net of '" + text + "'", Texts.tell(x, text), -1);
        CHECK.due("5 fault(0) of '" + text + "'", x.fault(0), kind);
        CHECK.due("5 fault(1) of '" + text + "'", x.fault(1), place);
    }

    private static void newObject() {
        TurnNet x = new TurnNet();
        int[] about = {0, 0, 0, -1, 1, 0, 0, 0, 0, 0, 0, 0};
        for (int what = 0; what < about.length; what++) {
            CHECK.due("1 about(" + what + ")", x.about(what), about[what]);
        }
        CHECK.due("1 fault(0)", x.fault(0), 0);
        CHECK.due("1 fault(1)", x.fault(1), -1);
        CHECK.due("1 back(0)", x.back(0), -1);
        CHECK.due("1 send", x.send(0, 1), -1);
        CHECK.due("1 NONE", TurnNet.NONE, -1);
    }

    private static void tape() {
        TurnNet x = new TurnNet();
        for (int i = 1; i <= 40; i++) {
            CHECK.due("2 feed " + i, x.feed(0x20202020, 0, -1, 5, 6), 20 * i);
        }
        CHECK.due("2 feed beyond 800", x.feed(0, 0, 0, 0, 0), -1);
        CHECK.due("2 bytes stay", x.about(11), 800);
        CHECK.due("3 end beyond", x.end(801), -1);
        CHECK.due("3 end below 0", x.end(-1), -1);
        CHECK.due("3 end at all", x.end(800), 800);
        CHECK.due("3 end(781)", x.end(781), 781);
        CHECK.due("2 feed to 801", x.feed(0, 0, 0, 0, 0), -1);
        CHECK.due("3 end(782)", x.end(782), -1);
        CHECK.due("3 end(780)", x.end(780), 780);
        CHECK.due("2 feed to 800", x.feed(0, 0, 0, 0, 0), 800);
        CHECK.due("3 end(0)", x.end(0), 0);
        // Of each number the highest byte comes first: "swit" "ches" " 7; " and two of blanks.
        CHECK.due("2 feed", x.feed(0x73776974, 0x63686573, 0x20373b20, 0x20202020, 0x0a0a0a0a), 20);
        CHECK.due("2 the bytes' order", x.net(), 7);
        CHECK.due("4 the tape is empty then", x.about(11), 0);
    }

    /** What stood behind the end once is gone. */
    private static void behindTheEnd() {
        TurnNet x = new TurnNet();
        x.feed(0x73776974, 0x63686573, 0x2032333b, 0x20202020, 0x20202020);
        x.end(10);
        CHECK.due("3 'switches 2'", x.net(), -1);
        CHECK.due("3 not 23", x.fault(0) * 100 + x.fault(1), 110);
        x.feed(0x73776974, 0x63686573, 0x20333b72, 0x616e6b20, 0x66617273);
        x.end(19);
        CHECK.due("3 'switches 3;rank far'", x.net(), -1);
        CHECK.due("3 not fars", x.fault(0) * 100 + x.fault(1), 119);
        x.feed(0x73776974, 0x63686573, 0x2032333b, 0x20202020, 0x20202020);
        x.end(10);
        x.feed(0x3b3b3b3b, 0, 0, 0, 0);
        x.end(11);
        CHECK.due("2 comes behind what is left", x.net(), 2);
    }

    /** One object, net upon net: nothing of the one ahead is left. */
    private static void netUponNet() {
        TurnNet x = new TurnNet();
        for (int i = 0; i < 2; i++) {
            CHECK.due("4 all lines", Texts.tell(x, "switches 3;root 1;room 2;rank number+1;"), 3);
            CHECK.due("5 without fault", x.fault(0) * 100 + x.fault(1), -1);
            CHECK.due("4 a fault", Texts.tell(x, "switches 3;root 1;room 2;rank 1+1;link 0"), -1);
            CHECK.due("5 its fault", x.fault(0) * 100 + x.fault(1), 140);
        }
        Texts.tell(x, "switches 3;link 0 1;link 1 2;");
        CHECK.due("4 no rank told: far", x.node(2, 1), 2);
        CHECK.due("17 in a line", x.length(0, 2), 2);
        CHECK.due("21 in a line", x.entry(2, 1, 0), 2);
        CHECK.due("33 in a line", x.without(1, 0), 4);
        Texts.tell(x, "switches 3;link 0 1;link 0 2;");
        CHECK.due("17 like bits, another net", x.length(0, 2), 1);
        CHECK.due("21 like bits, another net", x.entry(2, 1, 0), 1);
        CHECK.due("33 like bits, another net", x.without(1, 0), 4);
        CHECK.due("36 like bits, another net", x.around(0, 1, 1), 1);
    }

    private static void goodTexts() {
        good("", 0);
        good(" \n ", 0);
        good("switches 2;", 2);
        good("switches 10;", 10);
        good("\n switches\n0002 ;\n", 2);
        good("switches3;link0 1;link1 2;root2;room3;rank1;", 3);
        good("switches 3;rank far*number/links%2-(1+999);link 0 1;room 1;root 0;", 3);
        good("switches 3;rank -----1;", 3);
        good("switches 3;rank -((((far))));", 3);
        TurnNet x = new TurnNet();
        Texts.tell(x, "switches 4;link 3 1;link 0 2;root 3;room 2;rank -(far)+1;");
        CHECK.due("4 links", x.about(1), 2);
        CHECK.due("4 root", x.about(3), 3);
        CHECK.due("4 room", x.about(4), 2);
        CHECK.due("4 units", x.about(8), 4);
        CHECK.due("4 the end told first", x.link(0, 0), 3);
        CHECK.due("4 the end told second", x.link(0, 1), 1);
    }

    private static void faults() {
        bad("link 0 1;", 1, 0);
        bad(" ; ", 1, 1);
        bad("7", 1, 0);
        bad("switches 1;", 2, 9);
        bad("switches 11;", 2, 9);
        bad("switches 99999999999999999999;", 2, 9);
        bad("switches 4294967298;", 2, 9);
        bad("switches ;", 1, 9);
        bad("switches", 1, 8);
        bad("switches  ", 1, 10);
        bad("switches 3\n\n", 1, 12);
        bad("switches 3 3;", 1, 11);
        bad("switches -3;", 1, 9);
        bad("switchesx 3;", 1, 0);
        bad("switche 3;", 1, 0);
        bad("switches 3;;", 1, 11);
        bad("switches 3;switches 3;", 1, 11);
        bad("switches 3;link 0 0;", 2, 18);
        bad("switches 3;link 3 0;", 2, 16);
        bad("switches 3;link 0 3;", 2, 18);
        bad("switches 3;link 0 1;link 1 0;", 3, 27);
        bad("switches 3;link 0 1;link 0 1;", 3, 27);
        bad("switches 3;link 0;", 1, 17);
        bad("switches 3;link 0 1 2;", 1, 20);
        bad("switches 3;link 0 1", 1, 19);
        bad("switches 3;links 0 1;", 1, 11);
        bad("switches 3;root 3;", 2, 16);
        bad("switches 3;root far;", 1, 16);
        bad("switches 3;root 0;root 0;", 1, 18);
        bad("switches 3;room 0;", 2, 16);
        bad("switches 3;room 4;", 2, 16);
        bad("switches 3;room 1;room 2;", 1, 18);
        bad("switches 3;far;", 1, 11);
        bad("switches 3;x", 1, 11);
        bad("xwitches 3;", 1, 0);
        bad("switches 3;xink 0 1;", 1, 11);
        bad("switches 3;xoot 1;", 1, 11);
        bad("switches 3;xank 1;", 1, 11);
        bad("switches 3;linkz 0 1;", 1, 11);
        bad("switches 3;rooma 1;", 1, 11);
        bad("switches 3;Link 0 1;", 1, 11);
        bad("switches 3;\tlink 0 1;", 1, 11);
        bad("switches 3;link 0" + (char) 200 + "1;", 1, 17);
        bad("switches 3;" + (char) 0, 1, 11);
        bad("switches 3;link 0 9;@", 2, 18);
    }

    private static void faultsOfFormulas() {
        bad("switches 3;rank ;", 1, 16);
        bad("switches 3;rank", 1, 15);
        bad("switches 3;rank 1", 1, 17);
        bad("switches 3;rank 1000;", 2, 16);
        bad("switches 3;rank 1 2;", 1, 18);
        bad("switches 3;rank (1;", 1, 18);
        bad("switches 3;rank 1);", 1, 17);
        bad("switches 3;rank ();", 1, 17);
        bad("switches 3;rank 1+;", 1, 18);
        bad("switches 3;rank +1;", 1, 16);
        bad("switches 3;rank 1*/2;", 1, 18);
        bad("switches 3;rank -;", 1, 17);
        bad("switches 3;rank root;", 1, 16);
        bad("switches 3;rank link;", 1, 16);
        bad("switches 3;rank fars;", 1, 16);
        bad("switches 3;rank fara;", 1, 16);
        bad("switches 3;rank farz;", 1, 16);
        bad("switches 3;rank far far;", 1, 20);
        bad("switches 3;rank xumber;", 1, 16);
        bad("switches 3;rank 1;rank 1;", 1, 18);
        bad("switches 3;rank ------1;", 4, 22);
        bad("switches 3;rank ------1000;", 2, 22);
        bad("switches 3;rank ------;", 1, 22);
        bad("switches 3;rank -----(1);", 4, 22);
        bad("switches 3;rank 7-(((((( 1))))));", 4, 23 + 2);
    }

    private static void tooMany() {
        String forty = "switches 3;rank 1" + "+1".repeat(39);
        good(forty + ";", 3);
        bad(forty + "+1;", 4, forty.length() + 1);
        bad(forty + "+1000;", 2, forty.length() + 1);
        bad(forty + "+;", 1, forty.length() + 1);
        String nine = "switches 3;rank " + "(1)+".repeat(19) + "-";
        good(nine + "1;", 3);
        bad(nine + " (1);", 4, nine.length() + 2);
        StringBuilder links = new StringBuilder("switches 7;");
        int told = 0;
        for (int a = 0; a < 7; a++) {
            for (int b = a + 1; b < 7 && told < 20; b++) {
                links.append("link ").append(a).append(' ').append(b).append(';');
                told++;
            }
        }
        good(links.toString(), 7);
        bad(links + " link 5 6;", 4, links.length() + 1);
        bad(links + " link", 4, links.length() + 1);
        TurnNet x = new TurnNet();
        Texts.tell(x, forty + ";");
        CHECK.due("44 forty units", x.about(8), 40);
        Texts.tell(x, links.toString());
        CHECK.due("44 twenty links", x.about(1), 20);
        CHECK.due("44 no units", x.about(8), 0);
    }

    private static void faultLeavesAll() {
        TurnNet x = new TurnNet();
        Texts.tell(x, "switches 3;link 0 1;link 1 2;room 2;");
        x.send(0, 2);
        x.image(1);
        x.cut(1);
        x.steps(1);
        x.undo();
        CHECK.due("4 a fault", Texts.tell(x, "switches 5;link 0 1;root 7;"), -1);
        CHECK.due("4 switches stay", x.about(0), 3);
        CHECK.due("4 links stay", x.about(1), 2);
        CHECK.due("4 cut ones stay", x.about(2), 1);
        CHECK.due("4 room stays", x.about(4), 2);
        CHECK.due("4 packets stay", x.about(5), 1);
        CHECK.due("4 acts stay", x.about(9), 2);
        CHECK.due("4 taken back ones stay", x.about(10), 1);
        CHECK.due("4 the tape is empty", x.about(11), 0);
        CHECK.due("4 boxes stay", x.back(1), 1);
        CHECK.due("5 of the latest net()", x.fault(0), 2);
        CHECK.due("5 its place", x.fault(1), 25);
        CHECK.due("5 another what", x.fault(2), -1);
        CHECK.due("5 another what", x.fault(-1), -1);
    }

    private static void netBeginsAnew() {
        TurnNet x = new TurnNet();
        Texts.tell(x, "switches 3;link 0 1;link 1 2;room 2;root 1;rank 1;");
        x.send(0, 1);
        x.steps(2);
        x.send(0, 2);
        x.cut(0);
        x.turn(1);
        x.undo();
        x.image(0);
        CHECK.due("6 arrived", x.about(6), 1);
        CHECK.due("4 another net", Texts.tell(x, "switches 4;link 0 1;link 1 2;"), 4);
        int[] about = {4, 2, 2, 0, 1, 0, 0, 2, 0, 0, 0, 0};
        for (int what = 0; what < about.length; what++) {
            CHECK.due("4 then about(" + what + ")", x.about(what), about[what]);
        }
        CHECK.due("4 boxes are empty", x.back(0), -1);
        CHECK.due("4 no undo", x.undo(), false);
        CHECK.due("4 no redo", x.redo(), false);
        CHECK.due("4 an empty text", x.net(), 0);
        CHECK.due("4 has no switches", x.about(0), 0);
        CHECK.due("4 nor a root", x.about(3), -1);
        CHECK.due("4 nor links", x.link(0, 0), -1);
    }

    private static int rank(String formula, int node) {
        TurnNet x = new TurnNet();
        Texts.tell(x, "switches 4;link 0 1;link 1 2;link 2 3;rank " + formula + ";");
        return x.node(node, 1);
    }

    private static void ranks() {
        CHECK.due("15 far", rank("far", 3), 3);
        CHECK.due("15 number", rank("number*number", 3), 9);
        CHECK.due("15 links", rank("links", 1), 2);
        CHECK.due("15 * ahead of +", rank("1+2*3", 0), 7);
        CHECK.due("15 from the left", rank("9-3-2", 0), 4);
        CHECK.due("15 from the left", rank("100/7*3", 0), 42);
        CHECK.due("15 ( )", rank("(1+2)*3", 0), 9);
        CHECK.due("15 - unit", rank("-7*2", 0), -14);
        CHECK.due("15 - - unit", rank("5--2", 0), 7);
        CHECK.due("15 / is cut", rank("-7/2", 0), -3);
        CHECK.due("15 % is its rest", rank("-7%2", 0), -1);
        CHECK.due("15 / by 0", rank("7/far", 0), 0);
        CHECK.due("15 % by 0", rank("7%far", 0), 0);
        CHECK.due("15 wraps", rank("999*999*999*999", 0), (int) (999L * 999 * 999 * 999));
        CHECK.due("15 the least int by -1", rank("(2*32*32*32*32*32*32)/-1", 0), Integer.MIN_VALUE);
        CHECK.due("15 the least int by -1", rank("(2*32*32*32*32*32*32)%-1", 0), 0);
    }
}
