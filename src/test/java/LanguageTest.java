import java.lang.management.ManagementFactory;
import java.lang.reflect.Constructor;
import java.lang.reflect.Field;
import java.lang.reflect.Method;
import java.lang.reflect.Modifier;
import java.nio.file.Files;
import java.nio.file.Path;
import java.util.ArrayList;
import java.util.List;
import java.util.Map;
import java.util.Set;
import java.util.TreeMap;
import java.util.TreeSet;
import java.util.regex.Matcher;
import java.util.regex.Pattern;

/** The rules of LANGUAGE.md that can be seen from the source and the class; and that calls make no objects. */
public final class LanguageTest {
    private static final String FACE = "row lay at tear copy mean text put fault office mate mark rules move may judge ways "
        + "nth number lot draw undo drew can turns alike play keep on year forget run times fits known still fewest drop "
        + "table rings ringed even gain asked upper lower count finding findings digest";

    public static void main(String[] args) throws Exception {
        face();
        source(Files.readString(Path.of("src/main/java/HatDraw.java")));
        room();
        Due.end();
    }

    private static void face() {
        Set<String> due = new TreeSet<>(List.of(FACE.split(" ")));
        Set<String> open = new TreeSet<>();
        Set<String> closed = new TreeSet<>();
        for (Method m : HatDraw.class.getDeclaredMethods()) {
            (Modifier.isPublic(m.getModifiers()) ? open : closed).add(m.getName());
            Due.is("rule 1: " + m.getName() + " is public or private", seen(m.getModifiers()), 1);
            Due.is("rule 11: parameters of " + m.getName(), m.getParameterCount() <= 7 ? 1 : 0, 1);
        }
        Due.is("rule 1: the face " + open, open.equals(due) ? 1 : 0, 1);
        for (Class<?> inside : HatDraw.class.getDeclaredClasses()) {
            Due.is("rule 2: " + inside.getName() + " is static", Modifier.isStatic(inside.getModifiers()) ? 1 : 0, 1);
            Due.is("rule 11: fields of " + inside.getName(), plainFields(inside) <= 20 ? 1 : 0, 1);
            for (Method m : inside.getDeclaredMethods()) {
                closed.add(m.getName());
                Due.is("rule 11: parameters of " + m.getName(), m.getParameterCount() <= 7 ? 1 : 0, 1);
            }
        }
        closed.retainAll(due);
        Due.is("rule 1: private methods with public names " + closed, closed.size(), 0);
        Due.is("rule 11: fields", plainFields(HatDraw.class) <= 20 ? 1 : 0, 1);
        Due.is("rule 1: final", Modifier.isFinal(HatDraw.class.getModifiers()) ? 1 : 0, 1);
        Constructor<?>[] makers = HatDraw.class.getDeclaredConstructors();
        Due.is("rule 1: constructors", makers.length, 1);
        Due.is("rule 1: its parameters", makers[0].getParameterCount(), 0);
        for (Field f : HatDraw.class.getDeclaredFields()) {
            Due.is("rule 1: " + f.getName() + " is public or private", seen(f.getModifiers()), 1);
            if (Modifier.isStatic(f.getModifiers())) {
                Due.is("rule 5: " + f.getName() + " is final", Modifier.isFinal(f.getModifiers()) ? 1 : 0, 1);
            } else {
                Due.is("rule 1: " + f.getName() + " is private", Modifier.isPrivate(f.getModifiers()) ? 1 : 0, 1);
            }
        }
    }

    private static int seen(int modifiers) {
        return Modifier.isPublic(modifiers) || Modifier.isPrivate(modifiers) ? 1 : 0;
    }

    private static int plainFields(Class<?> type) {
        int sum = 0;
        for (Field f : type.getDeclaredFields()) {
            if (!Modifier.isStatic(f.getModifiers())) {
                sum++;
            }
        }
        return sum;
    }

    private static void source(String text) {
        String code = text.replaceAll("(?s)/\\*.*?\\*/", "").replaceAll("//[^\n]*", "");
        String[] words = {"throw", "throws", "try", "catch", "finally", "synchronized", "assert", "package", "protected",
            "double", "float", "Exact", "hashCode", "toString", "System\\.(?!arraycopy)\\w+", "Math\\.random", "->", "::"};
        for (String word : words) {
            boolean plain = word.matches("\\w+");
            Matcher found = Pattern.compile(plain ? "\\b" + word + "\\b" : word).matcher(code);
            Due.is("rules 3, 4, 6, 13: '" + word + "' is in the source", found.find() ? 1 : 0, 0);
        }
        Matcher imports = Pattern.compile("import ([\\w.]+);").matcher(code);
        while (imports.find()) {
            Due.is("rule 4: import " + imports.group(1), imports.group(1).equals("java.util.Arrays") ? 1 : 0, 1);
        }
        for (int i = 0; i < text.length(); i++) {
            if (text.charAt(i) > 126) {
                Due.is("rule 4: sign at " + i, text.charAt(i), 126);
            }
        }
        depths(methods(text.split("\n")));
        makers(code);
    }

    /** The methods by their names, each from the line that opens it to the brace at the same depth. */
    private static Map<String, String> methods(String[] lines) {
        Pattern opening = Pattern.compile("^( {4}| {8})(?! |return|if|for|while|else|switch)[\\w\\[\\] ]*?(\\w+)\\(.*\\) \\{$");
        Map<String, String> bodies = new TreeMap<>();
        for (int i = 0; i < lines.length; i++) {
            Matcher m = opening.matcher(lines[i]);
            if (!m.find()) {
                continue;
            }
            StringBuilder body = new StringBuilder();
            int end = i;
            while (end + 1 < lines.length && !lines[end].equals(m.group(1) + "}")) {
                end++;
                body.append(lines[end]).append('\n');
            }
            Due.is("rule 11: lines of " + lines[i].trim(), end - i + 1 <= 60 ? 1 : 0, 1);
            bodies.merge(m.group(2), body.toString(), String::concat);
        }
        return bodies;
    }

    /** How many methods are open at once from one on; one that calls itself is counted once. */
    private static int depth(String name, Map<String, String> bodies, Map<String, Integer> depths) {
        if (depths.containsKey(name)) {
            return depths.get(name);
        }
        depths.put(name, 0);
        int most = 0;
        for (String called : bodies.keySet()) {
            if (Pattern.compile("\\b" + called + "\\(").matcher(bodies.get(name)).find()) {
                most = Math.max(most, depth(called, bodies, depths));
            }
        }
        depths.put(name, most + 1);
        return most + 1;
    }

    private static void depths(Map<String, String> bodies) {
        Due.is("methods are found", bodies.size() > 80 ? 1 : 0, 1);
        Map<String, Integer> depths = new TreeMap<>();
        for (String name : bodies.keySet()) {
            int deep = depth(name, bodies, depths);
            Due.is("rule 11: calls from " + name + " on go " + deep + " deep", deep <= 8 ? 1 : 0, 1);
        }
    }

    /** Objects are made in constructors alone. */
    private static void makers(String code) {
        List<String> made = new ArrayList<>();
        Matcher m = Pattern.compile("[^\n]*\\bnew\\b[^\n]*").matcher(code);
        while (m.find()) {
            made.add(m.group().trim());
        }
        for (String line : made) {
            Due.is("rule 12: " + line, line.matches("\\w+ = new [\\w\\[\\] +()]+;") ? 1 : 0, 1);
        }
    }

    private static void dearest(HatDraw h) {
        h.run();
        h.table(0);
        h.drop();
        h.fewest(0);
        h.turns(5, 0);
        h.even(1);
        h.lot(5, 2);
        h.office(0);
        h.rules(0);
        h.nth(0, 0);
        h.digest();
        h.play(3);
    }

    /** A run must fit one room, so 512 calls make next to nothing (the count itself makes a little). */
    private static void room() {
        HatDraw h = Due.office("m11 m22 m33 m44 m55 m66");
        com.sun.management.ThreadMXBean bean = (com.sun.management.ThreadMXBean) ManagementFactory.getThreadMXBean();
        long thread = Thread.currentThread().getId();
        for (int k = 0; k < 20; k++) {
            dearest(h);
        }
        long before = bean.getThreadAllocatedBytes(thread);
        for (int k = 0; k < 43; k++) {
            dearest(h);
        }
        long made = bean.getThreadAllocatedBytes(thread) - before;
        Due.is("room: 516 calls made " + made + " bytes", made < 20000 ? 1 : 0, 1);
    }
}
