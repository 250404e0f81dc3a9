/** The boundaries of texts: what 'Terms' says of a NET and its FAULTS, and promises 1 to 5. */
public final class TextEdgesTest {
    private static final Runs RUNS = new Runs();
    private static final String THREE = "switches 3;";
    /** A feed of twenty blanks. */
    private static final String BLANKS = "feed 538976288 538976288 538976288 538976288 538976288";
    /** A feed of "switches 7;" and blanks. */
    private static final String SEVEN = "feed 1937205620 1667786099 540490528 538976288 538976288";

    public static void main(String[] args) {
        atMost800Bytes();
        linesInNoOrder();
        blanks();
        bytesBehindALine();
        bytesInAFormula();
        asLongAsCanBe();
        switchesLine();
        linkEnds();
        linkToldAlready();
        twentyLinks();
        rootLine();
        roomLine();
        rankLine();
        numbersInFormulas();
        fortyUnits();
        withinFiveOthers();
        formsOfFormulas();
        firstByItsPlace();
        leastOfOnePlace();
        placeOfTheEnd();
        whatCannotStandThere();
        emptyText();
        newObject();
        feed();
        end();
        net();
        fault();
        RUNS.close();
    }

    private static void good(String text, int switches) {
        RUNS.good(text, switches);
    }

    private static void bad(String marked, int fault) {
        RUNS.bad(marked, fault);
    }

    private static String links(int count) {
        StringBuilder text = new StringBuilder("switches 10;");
        int told = 0;
        for (int a = 0; a < 10; a++) {
            for (int b = a + 1; b < 10 && told < count; b++) {
                text.append("link ").append(b).append(' ').append(a).append(';');
                told++;
            }
        }
        return text.toString();
    }

    // ---- Terms ----

    private static void atMost800Bytes() {
        RUNS.sentence("Terms: a text of at most 800 bytes");
        String line = "switches 2;";
        good(line + " ".repeat(800 - line.length()), 2);
        good(" ".repeat(800 - line.length()) + line, 2);
        bad(line + " ".repeat(799 - line.length()) + "^x", 1);
        bad(" ".repeat(789) + "switches 2 ^", 1);
        bad(" ".repeat(790) + "switches 2^", 1);
        String number = "switches " + "0".repeat(789) + "2;";
        RUNS.due("a number of 790 digits", number.length(), 800);
        good(number, 2);
        bad("switches ^1" + "0".repeat(789) + ";", 2);
        bad("^" + "z".repeat(800), 1);
    }

    private static void linesInNoOrder() {
        RUNS.sentence("Terms: {line}, switches the first one, the others in any order");
        good("switches 2;", 2);
        good("switches 2;room 2;rank far;root 1;link 0 1;", 2);
        good("switches 2;link 0 1;root 1;rank far;room 2;", 2);
        good("switches 3;link 0 1;room 2;link 1 2;root 1;link 0 2;", 3);
        RUNS.run("switches 3;rank number;room 3;root 2;link 2 1;link 0 1;",
                "about 1 = 2", "about 3 = 2", "about 4 = 3", "about 8 = 1", "link 0 0 = 2",
                "link 1 0 = 0");
    }

    private static void blanks() {
        RUNS.sentence("Terms: blanks (32, 10) aside");
        for (int b = 0; b < 256; b++) {
            char c = (char) b;
            String text = "switches" + c + "2;";
            if (b == 32 || b == 10 || c == '0') {
                good(text, 2);
            } else if (c >= 'a' && c <= 'z') {
                bad("^" + text, 1);
            } else {
                bad2("switches", c + "2;", c >= '1' && c <= '9' ? 2 : 1);
            }
        }
    }

    /** A fault at the beginning of the second text. */
    private static void bad2(String ahead, String rest, int fault) {
        TurnNet x = new TurnNet();
        RUNS.due("net of '" + ahead + rest + "'", Texts.tell(x, ahead + rest), -1);
        RUNS.due("fault(0) of '" + ahead + rest + "'", x.fault(0), fault);
        RUNS.due("fault(1) of '" + ahead + rest + "'", x.fault(1), ahead.length());
    }

    private static void bytesBehindALine() {
        RUNS.sentence("Terms, FAULT 1: a TOKEN that is none, or can't stand there");
        for (int b = 0; b < 256; b++) {
            if (b == 32 || b == 10) {
                good(THREE + (char) b, 3);
                good((char) b + THREE, 3);
            } else {
                bad2(THREE, "" + (char) b, 1);
                bad2("", (char) b + THREE, 1);
            }
        }
    }

    private static void bytesInAFormula() {
        RUNS.sentence("Terms: the signs ; ( ) + - * / %");
        String ahead = THREE + "rank 1";
        for (int b = 0; b < 256; b++) {
            char c = (char) b;
            if (c >= '0' && c <= '9' || "+-*/%".indexOf(c) >= 0) {
                good(ahead + c + "1;", 3);
            } else if (c == ' ' || c == '\n' || c == ';') {
                bad2(ahead + c, "1;", 1);
            } else {
                bad2(ahead, c + "1;", 1);
            }
        }
    }

    private static void asLongAsCanBe() {
        RUNS.sentence("Terms: TOKENS, each as long as can be");
        good("switches3;link0 1;root2;room3;rank1-far;", 3);
        good("switches10;link9 8;", 10);
        bad("switches ^1 0;", 2);
        bad("switches ^21;", 2);
        bad("switches 3;link 01^;", 1);
        bad("^switchess 3;", 1);
        bad("^zwitches 3;", 1);
        bad("^switchez 3;", 1);
        bad(THREE + "^pink 0 1;", 1);
        bad(THREE + "^boot 1;", 1);
        bad(THREE + "^bank 1;", 1);
        bad(THREE + "^boom 1;", 1);
        bad(THREE + "rank ^car;", 1);
        bad(THREE + "rank ^lumber;", 1);
        bad(THREE + "rank ^winks;", 1);
        bad("^switche s 3;", 1);
        bad(THREE + "^linklink 0 1;", 1);
        bad(THREE + "^li nk 0 1;", 1);
        bad(THREE + "^links 0 1;", 1);
        bad(THREE + "rank ^link;", 1);
        bad(THREE + "rank ^farnumber;", 1);
        bad(THREE + "rank ^fa r;", 1);
        bad(THREE + "rank far^2;", 1);
        bad(THREE + "rank 2^far;", 1);
    }

    private static void switchesLine() {
        RUNS.sentence("Terms: switches (2 .. 10)");
        bad("switches ^0;", 2);
        bad("switches ^1;", 2);
        for (int n = 2; n <= 10; n++) {
            good("switches " + n + ";", n);
        }
        good("switches 010;", 10);
        bad("switches ^11;", 2);
        bad("switches ^99;", 2);
        bad("switches ^100;", 2);
        bad("switches ^4294967298;", 2);
        bad("switches ^18446744073709551618;", 2);
        bad("switches ^-2;", 1);
        RUNS.sentence("Terms: switches is the first line and no other one");
        bad("^link 0 1;switches 2;", 1);
        bad(THREE + "^switches 3;", 1);
        bad(THREE + "link 0 1;^switches 4;", 1);
    }

    private static void linkEnds() {
        RUNS.sentence("Terms: link: two unlike SWITCHES (numbered from 0 on)");
        good("switches 2;link 0 1;", 2);
        good("switches 2;link 1 0;", 2);
        bad("switches 2;link ^2 0;", 2);
        bad("switches 2;link 0 ^2;", 2);
        bad("switches 2;link 0 ^0;", 2);
        bad("switches 2;link 1 ^1;", 2);
        bad("switches 2;link ^2 2;", 2);
        good("switches 10;link 9 0;link 8 9;", 10);
        bad("switches 10;link ^10 0;", 2);
        bad("switches 10;link 0 ^10;", 2);
        bad("switches 10;link 9 ^9;", 2);
        bad(THREE + "link ^4294967296 1;", 2);
        bad(THREE + "link 0 ^4294967297;", 2);
        bad(THREE + "link ^-1 0;", 1);
        bad(THREE + "link 0^;", 1);
        bad(THREE + "link^;", 1);
        bad(THREE + "link 0 1 ^2;", 1);
    }

    private static void linkToldAlready() {
        RUNS.sentence("Terms, FAULT 3: a LINK told already (at the second number)");
        good(THREE + "link 0 1;link 0 2;link 1 2;", 3);
        bad(THREE + "link 0 1;link 0 ^1;", 3);
        bad(THREE + "link 0 1;link 1 ^0;", 3);
        bad(THREE + "link 2 1;link 0 1;link 0 2;link 1 ^2;", 3);
        bad(THREE + "link 0 1;link 1 ^1;", 2);
        bad(THREE + "link 0 1;link 1 ^3;", 2);
        bad(THREE + "link 0 1;link 0 ^1 7 7", 3);
        bad("switches 2;link 0 1;link 0 ^1;", 3);
    }

    private static void twentyLinks() {
        RUNS.sentence("Terms: 20 LINKS at most; FAULT 4 (a 21st LINK at its word)");
        good(links(19), 10);
        good(links(20), 10);
        bad(links(20) + "^link 9 8;", 4);
        bad(links(20) + "^link 1 0;", 4);
        bad(links(20) + "^link 9 9;", 4);
        bad(links(20) + "^link", 4);
        bad(links(20) + "^links 9 8;", 1);
        bad(links(20) + "room ^4;link 9 8;", 2);
        good(links(20) + "root 9;room 3;rank 1;", 10);
        RUNS.sentence("Terms: LINKS numbered as told");
        RUNS.run(links(20), "about 1 = 20", "link 0 0 = 1", "link 0 1 = 0", "link 19 0 = 5",
                "link 19 1 = 2", "link 20 0 = -1");
    }

    private static void rootLine() {
        RUNS.sentence("Terms: root (a SWITCH; 0 if not told) once");
        RUNS.run(THREE, "about 3 = 0");
        RUNS.run(THREE + "root 0;", "about 3 = 0");
        RUNS.run(THREE + "root 2;", "about 3 = 2");
        RUNS.run("switches 10;root 9;", "about 3 = 9");
        bad(THREE + "root ^3;", 2);
        bad("switches 10;root ^10;", 2);
        bad(THREE + "root ^-1;", 1);
        bad(THREE + "root 1 ^1;", 1);
        bad(THREE + "root 1;^root 1;", 1);
        bad(THREE + "root 0;link 0 1;^root 2;", 1);
        bad(THREE + "root 0;^root 7;", 1);
    }

    private static void roomLine() {
        RUNS.sentence("Terms: room (1 .. 3; 1 if not told) once");
        RUNS.run(THREE, "about 4 = 1");
        bad(THREE + "room ^0;", 2);
        RUNS.run(THREE + "room 1;", "about 4 = 1");
        RUNS.run(THREE + "room 3;", "about 4 = 3");
        bad(THREE + "room ^4;", 2);
        bad("switches 10;room ^10;", 2);
        bad(THREE + "room ^-1;", 1);
        bad(THREE + "room 1;^room 1;", 1);
        bad(THREE + "room 3;rank 1;^room 0;", 1);
    }

    private static void rankLine() {
        RUNS.sentence("Terms: rank once");
        good(THREE + "rank far;", 3);
        bad(THREE + "rank far;^rank far;", 1);
        bad(THREE + "rank 1;link 0 1;^rank;", 1);
    }

    private static void numbersInFormulas() {
        RUNS.sentence("Terms: a number in e is 0 .. 999");
        RUNS.run(THREE + "rank 0;", "node 2 1 = 0");
        RUNS.run(THREE + "rank 999;", "node 2 1 = 999");
        RUNS.run(THREE + "rank 000999;", "node 2 1 = 999");
        bad(THREE + "rank ^1000;", 2);
        bad(THREE + "rank far+^1000;", 2);
        bad(THREE + "rank -(far*^1000);", 2);
        bad(THREE + "rank ^4294967296;", 2);
        bad(THREE + "rank ^2147483648;", 2);
        RUNS.run(THREE + "rank -999;", "node 2 1 = -999");
        bad(THREE + "rank -^1000;", 2);
    }

    private static void fortyUnits() {
        RUNS.sentence("Terms: 40 units in e at most; FAULT 4 (a unit too many, at its first TOKEN)");
        String[] units = {"1", "far", "number", "links", "(1)", "-1", "1000"};
        for (int count = 39; count <= 40; count++) {
            String full = THREE + "rank 1" + "*1".repeat(count - 1);
            RUNS.run(full + ";", "about 8 = " + count);
            for (String unit : units) {
                boolean one = Character.isLetterOrDigit(unit.charAt(0)) && !unit.equals("1000");
                if (count == 39 && one) {
                    good(full + "+" + unit + ";", 3);
                } else if (unit.equals("1000")) {
                    bad(full + "+^1000;", 2);
                } else if (count == 40) {
                    bad(full + " + ^" + unit + ";", 4);
                } else {
                    bad(full + "+" + unit.charAt(0) + "^" + unit.substring(1) + ";", 4);
                }
            }
        }
        RUNS.sentence("Terms: (each that stands there as one of them, a ( e ), a - unit, too)");
        RUNS.run(THREE + "rank far;", "about 8 = 1");
        RUNS.run(THREE + "rank (far);", "about 8 = 2");
        RUNS.run(THREE + "rank -far;", "about 8 = 2");
        RUNS.run(THREE + "rank -(-far+links)-number;", "about 8 = 6");
        RUNS.run(THREE + "rank 1" + "-1".repeat(39) + ";", "about 8 = 40");
        RUNS.run(THREE + "rank (1)" + "-(1)".repeat(19) + ";", "about 8 = 40");
        bad(THREE + "rank (1)" + "-(1)".repeat(19) + "-^(1);", 4);
        RUNS.run(THREE + "rank -1" + "--1".repeat(19) + ";", "about 8 = 40");
        bad(THREE + "rank -1" + "--1".repeat(19) + "-^-1;", 4);
        bad(THREE + "rank 1" + "+1".repeat(38) + "+(^1);", 4);
        bad(THREE + "rank 1" + "+1".repeat(38) + "+-^1;", 4);
        bad(THREE + "rank (1" + "+1".repeat(38) + "+^1);", 4);
    }

    private static void withinFiveOthers() {
        RUNS.sentence("Terms: a unit within 5 others at most; FAULT 4 (within 6 others)");
        RUNS.run(THREE + "rank ----7;", "node 0 1 = 7", "about 8 = 5");
        RUNS.run(THREE + "rank -----7;", "node 0 1 = -7", "about 8 = 6");
        bad(THREE + "rank ------^7;", 4);
        RUNS.run(THREE + "rank (((((7)))));", "node 0 1 = 7", "about 8 = 6");
        bad(THREE + "rank ((((((^7))))));", 4);
        bad(THREE + "rank ((((((^-7))))));", 4);
        bad(THREE + "rank ((((((^(7)))))));", 4);
        RUNS.run(THREE + "rank -(-(-7));", "node 0 1 = -7");
        bad(THREE + "rank -(-(-(^7)));", 4);
        RUNS.run(THREE + "rank (-(-(far+number*links)));", "about 8 = 8");
        bad(THREE + "rank (-(-(-^(far+number))));", 4);
        bad(THREE + "rank (-(-(-^far+number)));", 4);
        RUNS.run(THREE + "rank (((((1+2*3)))))-(((((4)))))*-----5;", "node 0 1 = 27");
        bad(THREE + "rank (((((1+2*(^3))))));", 4);
        bad(THREE + "rank (((((1)))))+((((((^1))))));", 4);
        RUNS.run(THREE + "rank 1-1-1-1-1-1-1-1-1;", "node 0 1 = -7");
    }

    private static void formsOfFormulas() {
        RUNS.sentence("Terms: e = term {(+ | -) term}. term = unit {(* | / | %) unit}");
        bad(THREE + "rank ^;", 1);
        bad(THREE + "rank ^+1;", 1);
        bad(THREE + "rank ^*1;", 1);
        bad(THREE + "rank 1+^;", 1);
        bad(THREE + "rank 1-^;", 1);
        bad(THREE + "rank 1*^;", 1);
        bad(THREE + "rank 1%^+1;", 1);
        bad(THREE + "rank 1+^*1;", 1);
        good(THREE + "rank 1*-1;", 3);
        good(THREE + "rank 1--1;", 3);
        bad(THREE + "rank 1-^+1;", 1);
        bad(THREE + "rank (^);", 1);
        bad(THREE + "rank (1^;", 1);
        bad(THREE + "rank 1^);", 1);
        bad(THREE + "rank (1)^);", 1);
        bad(THREE + "rank ((1)^;", 1);
        bad(THREE + "rank (1)^(1);", 1);
        bad(THREE + "rank (1)^1;", 1);
        bad(THREE + "rank -^;", 1);
        bad(THREE + "rank ^root;", 1);
        bad(THREE + "rank far ^far;", 1);
        bad(THREE + "rank (far ^links);", 1);
    }

    private static void firstByItsPlace() {
        RUNS.sentence("Terms: FAULTS, the first by its place (a TOKEN's first byte)");
        bad(THREE + "link 0 ^9;room 9;", 2);
        bad(THREE + "room ^9;link 0 9;", 2);
        bad(THREE + "link 0 1 ^@;link 9 9;", 1);
        bad("switches ^1;@", 2);
        bad(THREE + "link 0 1;link 1 ^0@", 3);
        bad("  switches\n ^11;", 2);
        bad(THREE + "\n\n^switches 3;", 1);
        bad(links(20) + " \n^link @", 4);
        bad(THREE + "rank 1" + "+1".repeat(39) + "+  ^links@", 4);
        bad(THREE + "rank ------ \n^far@", 4);
    }

    private static void leastOfOnePlace() {
        RUNS.sentence("Terms: FAULTS, of one place the least");
        String full = THREE + "rank 1" + "+1".repeat(39);
        bad(full + "+^1;", 4);
        bad(full + "+^1000;", 2);
        bad(full + "+^;", 1);
        bad(full + "+^)", 1);
        bad(full + "+^@", 1);
        bad(full + "+^rank", 1);
        bad(full + "+^", 1);
        bad(THREE + "rank ------^999;", 4);
        bad(THREE + "rank ------^1000;", 2);
        bad(THREE + "rank ------^;", 1);
        bad(THREE + "rank ((((((^)", 1);
        bad(THREE + "rank ((((((^@", 1);
        bad(THREE + "rank ((((((^", 1);
    }

    private static void placeOfTheEnd() {
        RUNS.sentence("Terms: FAULTS, the first by its place (the end's, the text's length)");
        bad("switches^", 1);
        bad("switches \n ^", 1);
        bad("switches 3^", 1);
        bad("switches 3 ^", 1);
        bad(THREE + "link^", 1);
        bad(THREE + "link 0 ^", 1);
        bad(THREE + "link 0 1\n^", 1);
        bad(THREE + "root ^", 1);
        bad(THREE + "room 1^", 1);
        bad(THREE + "rank^", 1);
        bad(THREE + "rank far+ ^", 1);
        bad(THREE + "rank (1^", 1);
        bad(THREE + "rank (1) ^", 1);
        good(THREE + " ", 3);
    }

    private static void whatCannotStandThere() {
        RUNS.sentence("Terms, FAULT 1: another word ahead of switches; a line without switches");
        for (String line : new String[] {"link 0 1;", "root 0;", "rank far;", "room 1;", "far;", "x;"}) {
            bad(" ^" + line + THREE, 1);
            bad("^" + line, 1);
        }
        bad("^;", 1);
        bad("^3;", 1);
        bad("^;" + THREE, 1);
        RUNS.sentence("Terms, FAULT 1: switches behind the first line");
        bad(THREE + " ^switches 3;", 1);
        bad(THREE + "root ^switches;", 1);
        RUNS.sentence("Terms, FAULT 1: a line told a second time: at its word");
        for (String line : new String[] {"root 0;", "rank far;", "room 1;"}) {
            good(THREE + line + "link 0 1;", 3);
            bad(THREE + line + "link 0 1; ^" + line, 1);
        }
        RUNS.sentence("Terms, FAULT 1: a TOKEN that can't stand there");
        bad(THREE + "^;", 1);
        bad(THREE + "^far;", 1);
        bad(THREE + "^number;", 1);
        bad(THREE + "^7;", 1);
        bad(THREE + "^(;", 1);
        bad(THREE + "root ^far;", 1);
        bad(THREE + "room ^(1);", 1);
        bad(THREE + "link ^(0) 1;", 1);
        bad(THREE + "link 0^-1;", 1);
        bad(THREE + "link 0 1^)", 1);
    }

    private static void emptyText() {
        RUNS.sentence("Terms: an empty text has no SWITCHES");
        good("", 0);
        RUNS.run(null, "net = 0", "about 0 = 0", "about 1 = 0", "about 3 = -1", "fault 0 = 0",
                "fault 1 = -1");
        RUNS.run(THREE + "link 0 1;room 3;rank 1;", "net = 0", "about 0 = 0", "about 1 = 0",
                "about 2 = 0", "about 3 = -1", "about 4 = 1", "about 8 = 0", "node 0 0 = -2",
                "link 0 0 = -1", "length 0 0 = -1", "cut 0 = -1", "orient 0 = -1", "send 0 1 = -1",
                "steps 1 = -1", "game 0 1 0 = -1", "best 0 = -1", "pairs 0 = 0");
        RUNS.sentence("Terms: {line}, none at all, blanks aside");
        good(" ", 0);
        good("\n", 0);
        good(" ".repeat(799) + "\n", 0);
        bad(" \n^\0", 1);
    }

    // ---- promises 1 to 5 ----

    private static void newObject() {
        RUNS.sentence("1 no SWITCHES");
        RUNS.run(null, "about 0 = 0", "about 1 = 0", "about 2 = 0", "about 3 = -1", "about 4 = 1",
                "about 5 = 0", "about 6 = 0", "about 7 = 0", "about 8 = 0", "about 9 = 0",
                "about 10 = 0", "about 11 = 0", "node 0 0 = -2", "link 0 0 = -1", "load 0 = -1",
                "packet 0 0 = -2", "pivots = 0", "rings = 0", "drains = 0", "stuck = 0");
    }

    private static void feed() {
        RUNS.sentence("2 of each number the highest first");
        RUNS.run(null, SEVEN + " = 20", "net = 7");
        RUNS.run(null, "feed 1937205620 1667786099 540490528 538976288 -1 = 20", "net = -1",
                "fault 0 = 1", "fault 1 = 16");
        RUNS.run(null, "feed 1937205620 1667786099 540490528 538976288 538976383 = 20", "net = -1",
                "fault 0 = 1", "fault 1 = 19");
        RUNS.run(null, "feed 1937205620 1667786099 540490528 -2145378272 538976288 = 20", "net = -1",
                "fault 0 = 1", "fault 1 = 12");
        RUNS.sentence("2 they come behind those on the TAPE");
        RUNS.run(null, BLANKS + " = 20", SEVEN + " = 40", "net = 7");
        RUNS.run(null, SEVEN + " = 20", "end 10 = 10", BLANKS + " = 30", "net = -1", "fault 1 = 30");
        RUNS.sentence("2 NONE, and nothing comes, if there would be more than 800");
        TurnNet x = new TurnNet();
        for (int i = 1; i < 40; i++) {
            RUNS.go(x, BLANKS + " = " + 20 * i);
        }
        RUNS.go(x, "end 779 = 779", BLANKS + " = 799", SEVEN + " = -1", "about 11 = 799",
                "end 781 = 781", SEVEN + " = -1", "about 11 = 781", "end 780 = 780",
                SEVEN + " = 800", SEVEN + " = -1", BLANKS + " = -1", "about 11 = 800", "net = 7",
                "about 11 = 0", BLANKS + " = 20");
    }

    private static void end() {
        RUNS.sentence("3 the TAPE has its first n bytes alone");
        RUNS.run(null, "end 0 = 0", SEVEN, "end 20 = 20", "about 11 = 20", "end 11 = 11",
                "about 11 = 11", "net = 7");
        RUNS.run(null, SEVEN, "end 10 = 10", "net = -1", "fault 1 = 10");
        RUNS.run(null, SEVEN, "end 0 = 0", "about 11 = 0", "net = 0");
        RUNS.sentence("3 NONE, and nothing happens, if it has not so many, or n is below 0");
        RUNS.run(null, "end 1 = -1", "end -1 = -1", SEVEN, "end 21 = -1", "end 800 = -1",
                "end 801 = -1", "end most = -1", "end -1 = -1", "end least = -1", "about 11 = 20",
                "end 12 = 12", "end 13 = -1", "end 20 = -1", "about 11 = 12", "net = 7");
    }

    private static void net() {
        String text = THREE + "link 0 1;link 1 2;root 1;room 2;rank 1;";
        RUNS.sentence("4 (ORIENTED, nothing CUT, no PACKETS, ARRIVED 0, no ACTS are kept; BOXES are empty)");
        RUNS.run(text, "send 0 1", "steps 2", "send 2 0", "cut 0", "turn 1", "undo", "image 0",
                "image 1", "about 6 = 1", "about 5 = 1", "about 9 = 4", "about 10 = 1",
                "tell switches 3;link 1 2;link 0 1;link 0 2; = 3", "about 0 = 3", "about 1 = 3",
                "about 2 = 3", "about 3 = 0", "about 4 = 1", "about 5 = 0", "about 6 = 0",
                "about 8 = 0", "about 9 = 0", "about 10 = 0", "about 11 = 0", "undo = 0",
                "redo = 0", "back 0 = -1", "back 1 = -1", "packet 0 0 = -2", "link 0 2 = 1",
                "link 1 2 = 0", "link 2 2 = 0", "link 0 3 = 1", "node 2 1 = 1");
        RUNS.sentence("4 nothing of the NET ahead is left, nor of a text with a FAULT");
        RUNS.run(text, "node 2 1 = 1", "around 0 1 1 = 1", "tell switches 3;link 0 2;link 0 1; = 3",
                "around 0 1 1 = -1", "tell switches 3;link 0 1;link 1 2; = 3", "node 2 1 = 2",
                "around 0 1 1 = 1", "tell switches 3;root 1;room 3;rank 7+8* = -1",
                "tell switches 3;link 0 1;link 1 2; = 3", "node 2 1 = 2", "about 3 = 0", "about 4 = 1",
                "about 8 = 0", "tell switches 3;root 1;room 2;rank 5; = 3", "node 2 1 = 5", "about 8 = 1");
        RUNS.sentence("4 the same text once more begins anew, too");
        RUNS.run(text, "cut 0", "turn 1", "image 0", "tell " + text + " = 3", "about 2 = 2",
                "link 1 2 = 1", "about 9 = 0", "back 0 = -1");
        RUNS.sentence("4 NONE, and all stays: a FAULT");
        RUNS.run(text, "send 0 2", "image 1", "cut 1", "turn 0", "undo",
                "tell switches 5;link 0 1;room 3;rank 1+1;root 5; = -1", "about 0 = 3", "about 1 = 2",
                "about 2 = 1", "about 3 = 1", "about 4 = 2", "about 5 = 1", "about 8 = 1",
                "about 9 = 2", "about 10 = 1", "about 11 = 0", "link 1 0 = 1", "redo = 1",
                "link 0 2 = 1", "undo = 1", "undo = 1", "about 2 = 2", "back 0 = -1", "back 1 = 1");
    }

    private static void fault() {
        RUNS.sentence("5 (0: without; ahead of any, too), its place (NONE)");
        RUNS.run(null, "fault 0 = 0", "fault 1 = -1");
        RUNS.run(THREE, "fault 0 = 0", "fault 1 = -1");
        RUNS.run("", "fault 0 = 0", "fault 1 = -1");
        RUNS.run("x", "fault 0 = 1", "fault 1 = 0");
        RUNS.sentence("5 of the latest net()");
        RUNS.run("switches 1;", "fault 0 = 2", "fault 1 = 9", SEVEN, "fault 0 = 2", "fault 1 = 9",
                "net = 7", "fault 0 = 0", "fault 1 = -1", "tell x = -1", "fault 0 = 1",
                "fault 1 = 0", "tell " + links(20) + "link 8 9; = -1", "fault 0 = 4", "net = 0",
                "fault 0 = 0", "fault 1 = -1");
        RUNS.sentence("5 NONE for another what");
        RUNS.run("x", "fault 2 = -1", "fault -1 = -1", "fault most = -1", "fault least = -1");
        RUNS.run(null, "fault 2 = -1", "fault -1 = -1");
    }
}
