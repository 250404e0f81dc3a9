import java.io.IOException;
import java.lang.management.ManagementFactory;
import java.lang.reflect.Array;
import java.lang.reflect.Constructor;
import java.lang.reflect.Field;
import java.lang.reflect.Member;
import java.lang.reflect.Method;
import java.lang.reflect.Modifier;
import java.nio.file.Files;
import java.nio.file.Path;
import java.util.ArrayDeque;
import java.util.Arrays;
import java.util.Collections;
import java.util.Deque;
import java.util.HashSet;
import java.util.IdentityHashMap;
import java.util.Set;
import java.util.TreeSet;
import java.util.regex.Matcher;
import java.util.regex.Pattern;

/** The rules for the program's file that can be seen from its text, its members and its memory. */
public final class RulesTest {
    private static final Check CHECK = new Check();
    private static final String[] FACE = {
        "TurnNet()", "NONE",
        "feed(int,int,int,int,int)int", "end(int)int", "net()int", "fault(int)int", "cut(int)int",
        "mend(int)int", "turn(int)int", "orient(int)int", "change(int,int)int", "send(int,int)int",
        "steps(int)int", "undo()boolean", "redo()boolean", "node(int,int)int", "link(int,int)int",
        "length(int,int)int", "plain(int,int)int", "ways(int,int)long", "through(int,int,int)long",
        "entry(int,int,int)int", "path(int,int,int)int", "load(int)int", "heaviest(int)int",
        "pairs(int)int", "depends(int,int)int", "rings()int", "ring(int)int", "plan(int,int)int",
        "phase(int,int)int", "rooted(int,int)int", "best(int)int", "without(int,int)int",
        "dearest()int", "apart(int,int)int", "around(int,int,int)int", "pivots()int",
        "game(int,int,int)int", "packet(int,int)int", "drains()int", "stuck()int",
        "image(int)int", "back(int)int", "about(int)int",
    };

    public static void main(String[] args) throws Exception {
        face();
        classesInside();
        words();
        methodsStayShort();
        memory();
        callsMakeNothing();
        CHECK.close();
    }

    private static void hold(String what, boolean holds) {
        CHECK.due(what, holds, true);
    }

    private static void face() {
        Set<String> found = new TreeSet<>();
        for (Constructor<?> c : TurnNet.class.getDeclaredConstructors()) {
            see(c, "TurnNet()", found);
        }
        for (Field f : TurnNet.class.getDeclaredFields()) {
            see(f, f.getName(), found);
        }
        for (Method m : TurnNet.class.getDeclaredMethods()) {
            String types = String.join(",", Arrays.stream(m.getParameterTypes())
                    .map(Class::getName).toList());
            see(m, m.getName() + "(" + types + ")" + m.getReturnType().getName(), found);
        }
        hold("1 the face: " + found, found.equals(new TreeSet<>(Arrays.asList(FACE))));
        int kind = TurnNet.class.getModifiers();
        hold("1 public and final", Modifier.isPublic(kind) && Modifier.isFinal(kind));
    }

    private static void see(Member m, String name, Set<String> found) {
        if (Modifier.isPublic(m.getModifiers())) {
            found.add(name);
        } else {
            hold("1 private: " + name, Modifier.isPrivate(m.getModifiers()));
        }
    }

    private static void classesInside() {
        Class<?>[] inside = TurnNet.class.getDeclaredClasses();
        hold("11 some twelve classes", inside.length + 1 <= 12);
        Set<String> names = new HashSet<>();
        for (String s : FACE) {
            names.add(s.replaceAll("\\(.*", ""));
        }
        check(TurnNet.class, Set.of());
        for (Class<?> c : inside) {
            hold("1 static: " + c, Modifier.isStatic(c.getModifiers())
                    && !Modifier.isPublic(c.getModifiers()));
            check(c, names);
        }
    }

    private static void check(Class<?> c, Set<String> names) {
        int fields = 0;
        for (Field f : c.getDeclaredFields()) {
            boolean fixed = Modifier.isStatic(f.getModifiers());
            fields += fixed ? 0 : 1;
            hold("5 final: " + f, !fixed || Modifier.isFinal(f.getModifiers()));
        }
        hold("11 some twenty fields: " + c, fields <= 20);
        for (Method m : c.getDeclaredMethods()) {
            hold("1 a name of its own: " + m, !names.contains(m.getName()));
            hold("11 seven parameters: " + m, m.getParameterCount() <= 7);
        }
    }

    private static String source() throws IOException {
        String text = Files.readString(Path.of("src/main/java/TurnNet.java"));
        return text.replaceAll("(?s)/\\*.*?\\*/", "").replaceAll("//[^\n]*", "");
    }

    private static void words() throws IOException {
        String text = source();
        String[] none = {"throw", "throws", "try", "catch", "synchronized", "assert", "import",
            "package", "->", "::", "Exact", "protected", "volatile", "transient", "native",
            "instanceof", "System.out", "double", "float"};
        for (String word : none) {
            String form = Character.isLetter(word.charAt(0)) ? "\\b" + word : Pattern.quote(word);
            hold("6 no " + word, !Pattern.compile(form + "(?![a-zA-Z])").matcher(text).find());
        }
        for (char c : text.toCharArray()) {
            if (c > 126) {
                hold("3 a sign beyond 126", false);
            }
        }
        Matcher m = Pattern.compile("(?m)^.*\\bnew .*$").matcher(text);
        while (m.find()) {
            String line = m.group().trim();
            boolean field = line.matches("(private )?(final )?[A-Za-z]+(\\[\\])? [a-z][A-Za-z]* = new .*");
            boolean inConstructor = line.equals("boxes[box] = new State();")
                    || line.equals("slots[slot] = new State();");
            hold("12 made with the object: " + line, field || inConstructor);
        }
    }

    private static void methodsStayShort() throws IOException {
        int start = -1;
        String[] lines = source().split("\n");
        for (int i = 0; i < lines.length; i++) {
            String line = lines[i];
            if (line.matches("(    |        )[a-zA-Z].*\\) \\{")) {
                start = i;
            } else if (start >= 0 && line.matches("(    |        )\\}")) {
                hold("11 a short method: " + lines[start].trim(), i - start <= 60);
                start = -1;
            }
        }
    }

    /** Counts what one object holds, arrays' elements and objects' fields. */
    private static void memory() throws IllegalAccessException {
        TurnNet x = new TurnNet();
        long[] before = count(x);
        System.out.println("an object has " + before[0] + " parts with " + before[1]
                + " fields and elements");
        hold("12 few parts", before[0] < 300);
        hold("12 few elements", before[1] < 8000);
        Texts.tell(x, "switches 4;link 0 1;link 1 2;link 2 3;link 3 0;link 0 2;rank far*2+number;");
        callAll(x);
        long[] behind = count(x);
        CHECK.due("12 no part more", behind[0], before[0]);
        CHECK.due("12 no element more", behind[1], before[1]);
    }

    private static long[] count(Object root) throws IllegalAccessException {
        Set<Object> seen = Collections.newSetFromMap(new IdentityHashMap<>());
        Deque<Object> open = new ArrayDeque<>();
        open.add(root);
        long elements = 0;
        while (!open.isEmpty()) {
            Object o = open.pop();
            if (!seen.add(o)) {
                continue;
            }
            if (o.getClass().isArray()) {
                elements += Array.getLength(o);
                for (int i = 0; o instanceof Object[] && i < Array.getLength(o); i++) {
                    open.push(Array.get(o, i));
                }
                continue;
            }
            for (Field f : o.getClass().getDeclaredFields()) {
                if (!Modifier.isStatic(f.getModifiers())) {
                    f.setAccessible(true);
                    elements++;
                    if (!f.getType().isPrimitive()) {
                        open.push(f.get(o));
                    }
                }
            }
        }
        return new long[] {seen.size(), elements};
    }

    private static void callAll(TurnNet x) {
        x.send(0, 2);
        x.change(1, 2);
        x.undo();
        x.redo();
        x.orient(0);
        x.turn(0);
        x.turn(0);
        x.cut(1);
        x.mend(1);
        x.steps(1);
        x.image(0);
        for (int i = 0; i < 4; i++) {
            x.node(1, i);
            x.link(1, i);
            x.length(i, 2);
            x.plain(i, 2);
            x.ways(i, 2);
            x.through(i, 2, 3);
            x.entry(i, 2, 0);
            x.path(i, 2, 1);
            x.load(i);
            x.heaviest(i);
            x.pairs(i);
            x.depends(i, 2);
            x.ring(i);
            x.plan(i, 1);
            x.phase(i, 2);
            x.rooted(i, 2);
            x.best(i);
            x.without(i, 1);
            x.apart(i, 2);
            x.around(i, 2, 1);
            x.game(i, 60, 2);
            x.packet(0, 4);
        }
        x.rings();
        x.dearest();
        x.pivots();
        x.drains();
        x.stuck();
        x.back(0);
    }

    /** All calls of a run share one room, so a call makes no object at all. */
    private static void callsMakeNothing() {
        TurnNet x = new TurnNet();
        Texts.tell(x, "switches 4;link 0 1;link 1 2;link 2 3;link 3 0;link 0 2;rank far*2+number;");
        com.sun.management.ThreadMXBean bean =
                (com.sun.management.ThreadMXBean) ManagementFactory.getThreadMXBean();
        long id = Thread.currentThread().getId();
        callAll(x);
        long before = bean.getThreadAllocatedBytes(id);
        for (int i = 0; i < 1000; i++) {
            callAll(x);
            x.feed(0x73776974, 0x63686573, 0x20373b20, 0x20202020, 0x72616e6b);
            x.end(11);
            x.end(0);
        }
        long made = bean.getThreadAllocatedBytes(id) - before;
        hold("12 a thousand rounds of all calls make nothing: " + made + " bytes", made < 10000);
    }
}
