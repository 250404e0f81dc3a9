import java.util.ArrayList;
import java.util.Collections;
import java.util.List;
import java.util.Random;

/** Texts of nets for tests: how they are fed, and such as chance makes them. */
final class Texts {
    private Texts() { }

    /** The bytes of a text in groups of five numbers, blanks behind its end. */
    static List<int[]> rows(String text) {
        List<int[]> rows = new ArrayList<>();
        for (int i = 0; i < text.length(); i += 20) {
            int[] row = new int[5];
            for (int j = 0; j < 20; j++) {
                int b = i + j < text.length() ? text.charAt(i + j) : ' ';
                row[j / 4] = row[j / 4] << 8 | b;
            }
            rows.add(row);
        }
        return rows;
    }

    /** Puts a text on an empty tape and makes it the net. */
    static int tell(TurnNet x, String text) {
        for (int[] r : rows(text)) {
            x.feed(r[0], r[1], r[2], r[3], r[4]);
        }
        x.end(text.length());
        return x.net();
    }

    static String formula(Random r, int depth) {
        StringBuilder s = new StringBuilder();
        int terms = 1 + r.nextInt(depth == 0 ? 4 : 2);
        for (int i = 0; i < terms; i++) {
            s.append(i == 0 ? "" : "+-*/%".substring(r.nextInt(5)).substring(0, 1));
            s.append(unit(r, depth));
        }
        return s.toString();
    }

    private static String unit(Random r, int depth) {
        String blank = r.nextInt(3) == 0 ? " " : "";
        switch (r.nextInt(depth > 4 ? 6 : 9)) {
            case 0:
                return blank + r.nextInt(12);
            case 1:
                return blank + r.nextInt(1000);
            case 2:
            case 3:
                return blank + "far";
            case 4:
                return blank + "number";
            case 5:
                return blank + "links";
            case 6:
            case 7:
                return blank + "(" + formula(r, depth + 1) + ")";
            default:
                return blank + "-" + unit(r, depth + 1);
        }
    }

    static String net(Random r, int most) {
        int n = 2 + r.nextInt(most - 1);
        List<String> lines = new ArrayList<>();
        List<int[]> all = new ArrayList<>();
        for (int a = 0; a < n; a++) {
            for (int b = a + 1; b < n; b++) {
                all.add(r.nextBoolean() ? new int[] {a, b} : new int[] {b, a});
            }
        }
        Collections.shuffle(all, r);
        int links = Math.min(Math.min(all.size(), 20), n - 2 + r.nextInt(n + 3));
        for (int i = 0; i < links; i++) {
            lines.add("link " + all.get(i)[0] + " " + all.get(i)[1] + ";");
        }
        if (r.nextInt(3) == 0) {
            lines.add("root " + r.nextInt(n) + ";");
        }
        if (r.nextInt(2) == 0) {
            lines.add("rank " + formula(r, 0) + ";");
        }
        if (r.nextInt(2) == 0) {
            lines.add("room" + (1 + r.nextInt(3)) + " ;");
        }
        if (r.nextInt(3) == 0) {
            Collections.shuffle(lines, r);
        }
        String text = "switches " + n + ";";
        for (String line : lines) {
            text += (r.nextInt(4) == 0 ? "\n " : "") + line;
        }
        return text.length() > 800 ? "switches 2; link 0 1;" : text;
    }

    /** A text with something wrong, most likely. */
    static String broken(Random r) {
        if (r.nextInt(4) == 0) {
            return longFormula(r);
        }
        StringBuilder s = new StringBuilder(net(r, 10));
        if (r.nextInt(8) == 0) {
            return s.append("link 0 1; link 1  0;").toString();
        }
        String[] bits = {"switches ", "link 0 1;", "root 1;", "room 2;", "rank far;", "link 3 ",
            "10", "1000", ";", "(", ")", "+", "-", "*", "/", "%", " ", "\n", "\t", "A", "far",
            "number", "links", "x", "0", "(((((", "-----", "rank -(((((1)))));", "\u00ff", "\0"};
        int changes = 1 + r.nextInt(2);
        for (int i = 0; i < changes; i++) {
            int at = r.nextInt(s.length() + 1);
            switch (r.nextInt(4)) {
                case 0:
                    s.setLength(at);
                    break;
                case 1:
                    s.delete(at, Math.min(s.length(), at + 1 + r.nextInt(3)));
                    break;
                default:
                    s.insert(at, bits[r.nextInt(bits.length)]);
            }
        }
        return s.length() > 800 ? s.substring(0, 800) : s.toString();
    }

    private static String longFormula(Random r) {
        StringBuilder s = new StringBuilder("switches 3;rank ");
        int n = 36 + r.nextInt(8);
        for (int i = 0; i < n; i++) {
            s.append(i == 0 ? "" : "+").append(r.nextInt(20) == 0 ? "-" : "")
                    .append(r.nextInt(30) == 0 ? "1000" : "7");
        }
        return s.append(";").toString();
    }
}
