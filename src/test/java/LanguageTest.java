import java.lang.reflect.Constructor;
import java.lang.reflect.Field;
import java.lang.reflect.Method;
import java.lang.reflect.Modifier;
import java.nio.file.Files;
import java.nio.file.Path;
import java.util.ArrayList;
import java.util.List;
import java.util.Map;
import java.util.Set;
import java.util.TreeMap;
import java.util.TreeSet;
import java.util.regex.Matcher;
import java.util.regex.Pattern;

/** The face of the document, and the rules of LANGUAGE.md that can be seen from outside. */
public final class LanguageTest {
    private static int wrong = 0;

    private static final String FACE = "int type(int) int field(int,boolean) int shared(boolean) int method(int,int,int)"
        + " int line(int,int,int,int,int) int caught(int,int,int,int,int) int thing(int) int array(int) int put(int,int,int)"
        + " int set(int,int) int get(int,int) int stat(int) int kind(int) int arg(int,boolean,int,int) int analyse()"
        + " int effects(int,int) int by(int,int,boolean) int may(int,int,int) int free(int,int) int run(int) int did(int)"
        + " int foreseen() int both(int,int) int printed(int) int count(int)";

    private static void must(boolean holds, String what) {
        if (!holds) {
            wrong++;
            System.out.println(what);
        }
    }

    public static void main(String[] args) throws Exception {
        face();
        classesInside();
        words();
        depthOfCalls();
        System.out.println(wrong == 0 ? "the rules are kept" : wrong + " rules are broken");
        if (wrong != 0) {
            System.exit(1);
        }
    }

    private static void face() {
        Class<?> c = PurityEffects.class;
        must(Modifier.isPublic(c.getModifiers()) && Modifier.isFinal(c.getModifiers()), "1: the class is public and final");
        StringBuilder left = new StringBuilder(" " + FACE + " ");
        Set<String> names = new TreeSet<>();
        for (Method m : c.getDeclaredMethods()) {
            if (Modifier.isPrivate(m.getModifiers())) {
                continue;
            }
            names.add(m.getName());
            List<String> params = new ArrayList<>();
            for (Class<?> p : m.getParameterTypes()) {
                params.add(p.getName());
            }
            String told = " " + m.getReturnType().getName() + " " + m.getName() + "(" + String.join(",", params) + ") ";
            int at = left.indexOf(told);
            must(at >= 0 && Modifier.isPublic(m.getModifiers()), "1: not of the face:" + told);
            if (at >= 0) {
                left.delete(at, at + told.length() - 1);
            }
        }
        must(left.toString().trim().isEmpty(), "1: the face lacks " + left);
        for (Method m : c.getDeclaredMethods()) {
            must(!Modifier.isPrivate(m.getModifiers()) || !names.contains(m.getName()), "1: private " + m.getName());
        }
        for (Constructor<?> k : c.getDeclaredConstructors()) {
            must(Modifier.isPublic(k.getModifiers()) && k.getParameterCount() == 0, "1: constructor " + k);
        }
        Set<String> constants = Set.of("UNKNOWN", "OUTSIDE", "ROOM", "FULL");
        for (Field f : c.getDeclaredFields()) {
            must(Modifier.isPrivate(f.getModifiers()) || constants.contains(f.getName()), "1: field " + f);
            must(!Modifier.isStatic(f.getModifiers()) || Modifier.isFinal(f.getModifiers()), "5: static " + f);
        }
        for (Class<?> inside : c.getDeclaredClasses()) {
            for (Method m : inside.getDeclaredMethods()) {
                must(!names.contains(m.getName()), "1: " + inside.getSimpleName() + "." + m.getName() + " bears a public name");
            }
        }
    }

    private static void classesInside() {
        Class<?>[] inside = PurityEffects.class.getDeclaredClasses();
        must(inside.length <= 12, "11: at most twelve classes");
        for (Class<?> c : inside) {
            must(Modifier.isStatic(c.getModifiers()), "2: " + c + " is static");
            must(c.getDeclaredClasses().length == 0, "2: " + c + " has none inside");
            int fields = 0;
            for (Field f : c.getDeclaredFields()) {
                fields += Modifier.isStatic(f.getModifiers()) ? 0 : 1;
            }
            must(fields <= 20, "11: " + c + " has " + fields + " fields");
            for (Method m : c.getDeclaredMethods()) {
                must(m.getParameterCount() <= 7, "11: params of " + m);
            }
        }
    }

    private static String source() throws Exception {
        return Files.readString(Path.of("src/main/java/PurityEffects.java"));
    }

    private static String withoutComments(String all) {
        return all.replaceAll("(?s)/\\*.*?\\*/", "").replaceAll("//[^\n]*", "");
    }

    private static void words() throws Exception {
        String all = source();
        String code = withoutComments(all);
        String[] banned = {"throw", "throws", "try", "catch", "finally", "synchronized", "assert", "import", "package", "protected",
            "Exception", "Error", "hashCode", "equals", "toString", "lambda", "Thread", "Object", "volatile", "native", "var", "yield"};
        for (String word : banned) {
            Matcher m = Pattern.compile("\\b" + word + "\\b").matcher(code);
            must(!m.find(), "6: the word " + word);
        }
        must(!code.contains("->") && !code.contains("::"), "2: a lambda or a method reference");
        must(!code.contains("static {"), "5: a static block");
        must(!code.contains("while"), "9: a loop without a counter");
        for (char ch : all.toCharArray()) {
            must(ch < 128, "3: the character " + (int) ch);
        }
        int inMethod = 0;
        for (String row : code.split("\n")) {
            boolean begins = row.matches(" {4,8}\\S.*\\) \\{") && !row.trim().startsWith("if") && !row.trim().startsWith("for");
            inMethod = begins ? 1 : inMethod + 1;
            if (row.matches(" {4,8}}")) {
                must(inMethod <= 60 || row.startsWith("    }") && !row.startsWith("     "), "11: a method of " + inMethod + " lines");
            }
        }
        Matcher loops = Pattern.compile("\\bnew \\w+").matcher(code);
        while (loops.find()) {
            int open = code.lastIndexOf("{", loops.start());
            String head = code.substring(code.lastIndexOf("\n", open) + 1, open);
            must(!head.contains("for ("), "12: made in a loop: " + loops.group());
        }
    }

    /** By names alone, so that methods of one name count as one: what is found is never less than what is. */
    private static void depthOfCalls() throws Exception {
        Map<String, Set<String>> calledBy = new TreeMap<>();
        Set<String> open = new TreeSet<>();
        Pattern begin = Pattern.compile(" {4,8}(?:\\w+(?:\\[])? )*(\\w+)\\([^;]*\\) \\{");
        Pattern call = Pattern.compile("\\b(\\w+)\\(");
        for (String row : withoutComments(source()).split("\n")) {
            Matcher head = begin.matcher(row);
            if (head.matches() && !Set.of("if", "for", "switch").contains(head.group(1))) {
                open = calledBy.computeIfAbsent(head.group(1), name -> new TreeSet<>());
                continue;
            }
            Matcher m = call.matcher(row);
            while (m.find()) {
                open.add(m.group(1));
            }
        }
        must(calledBy.size() > 80 && calledBy.containsKey("weighCall"), "11: the methods are found: " + calledBy.size());
        for (String name : calledBy.keySet()) {
            int deep = deepest(name, calledBy, new TreeSet<>());
            must(deep <= 8, "8, 11: from " + name + " calls go " + deep + " deep");
        }
    }

    /** How many calls stand open at once, this one too; a hundred for one that comes back to itself. */
    private static int deepest(String name, Map<String, Set<String>> calledBy, Set<String> above) {
        if (!above.add(name)) {
            return 100;
        }
        int deep = 0;
        for (String called : calledBy.get(name)) {
            if (calledBy.containsKey(called)) {
                deep = Math.max(deep, deepest(called, calledBy, above));
            }
        }
        above.remove(name);
        return deep + 1;
    }
}
