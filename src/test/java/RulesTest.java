import java.lang.reflect.Constructor;
import java.lang.reflect.Field;
import java.lang.reflect.Method;
import java.lang.reflect.Modifier;
import java.nio.file.Files;
import java.nio.file.Path;
import java.util.Arrays;
import java.util.HashMap;
import java.util.HashSet;
import java.util.Map;
import java.util.Set;
import java.util.TreeSet;
import java.util.regex.Matcher;
import java.util.regex.Pattern;

/** The document's face, and those rules of LANGUAGE.md that can be read off the source or the class. */
public final class RulesTest {
    private static final String SOURCE = "src/main/java/BolsterBeds.java";
    private static final String[] FACE = (
        "int row(int,int);int lay(int,int,int);int at(int,int);int tear(int);int copy(int,int,int,int,int);"
        + "int mean(int);int text(int,int);int put(int,int,int);int fault(int);int town(int);int bed(int,int);"
        + "int mark(int,int);int cross(int,int);int night();int inspect(int);int thin(int);int swap(int,int);"
        + "int undo(int);int keep(int);int on(int);int then(int,int);int when(int);int least(int,int);"
        + "int round(int,int);int brings(int);int marry(int);int rather();int thicks(int,int);int kinds(int,int);"
        + "int test(int,int);int duel(int);int odds(int,int);int mid(int);int lots(int,int);int asked();"
        + "long upper();long lower();int count(int);int finding();int findings(int);long digest()").split(";");
    private static final String CONSTANTS = "BAD=-1 FINDING=-3 FULL=-2 NONE=-9 SPENT=-6 STATE=-4";
    private static final String[] BANNED = {
        "throw", "throws", "try", "catch", "finally", "synchronized", "assert", "volatile", "transient", "native",
        "var", "yield", "sealed", "permits", "protected", "goto", "strictfp", "String", "float", "double",
        "Object", "Class", "Thread", "Random", "System.out", "System.exit", "nanoTime", "currentTimeMillis"};

    private static final int DEEPEST = 8;
    private static final Pattern METHOD =
        Pattern.compile(" {4}( {4})?((?:public |private |static )*)(?:[\\w\\[\\]]+ )?(\\w+)\\([^()]*\\) \\{");

    public static void main(String[] args) throws Exception {
        face();
        constants();
        onlyTheFaceIsSeen();
        classesInside();
        String code = stripped(Files.readString(Path.of(SOURCE)));
        source(code);
        calls(code);
        Check.end("RulesTest");
    }

    private static void holds(String rule, boolean is) {
        Check.due(rule, is ? 1 : 0, 1);
    }

    private static void face() throws ReflectiveOperationException {
        Set<String> due = new TreeSet<>(Arrays.asList(FACE));
        Set<String> there = new TreeSet<>();
        for (Method m : BolsterBeds.class.getDeclaredMethods()) {
            if (Modifier.isPublic(m.getModifiers())) {
                holds(m + " is an object's", !Modifier.isStatic(m.getModifiers()));
                there.add(signature(m));
            }
        }
        holds("the face is " + due + ", not " + there, due.equals(there));
        Constructor<?>[] constructors = BolsterBeds.class.getDeclaredConstructors();
        holds("one constructor", constructors.length == 1 && constructors[0].getParameterCount() == 0);
        holds("it is public", Modifier.isPublic(constructors[0].getModifiers()));
        holds("the class is public and final", Modifier.isPublic(BolsterBeds.class.getModifiers())
            && Modifier.isFinal(BolsterBeds.class.getModifiers()));
    }

    private static String signature(Method m) {
        StringBuilder s = new StringBuilder(m.getReturnType().getName() + " " + m.getName() + "(");
        for (Class<?> type : m.getParameterTypes()) {
            s.append(s.charAt(s.length() - 1) == '(' ? "" : ",").append(type.getName());
        }
        return s + ")";
    }

    private static void constants() throws ReflectiveOperationException {
        Set<String> there = new TreeSet<>();
        for (Field f : BolsterBeds.class.getDeclaredFields()) {
            if (Modifier.isPublic(f.getModifiers())) {
                there.add(f.getName() + "=" + f.getInt(null));
                holds(f + " is final", Modifier.isFinal(f.getModifiers()));
            }
        }
        holds("the constants are " + there, String.join(" ", there).equals(CONSTANTS));
    }

    private static void onlyTheFaceIsSeen() {
        Set<String> names = new TreeSet<>();
        for (String call : FACE) {
            names.add(call.substring(call.indexOf(' ') + 1, call.indexOf('(')));
        }
        for (Method m : BolsterBeds.class.getDeclaredMethods()) {
            if (!Modifier.isPublic(m.getModifiers())) {
                holds(m + " is private", Modifier.isPrivate(m.getModifiers()));
                holds(m + " has a name of its own", !names.contains(m.getName()));
            }
        }
        for (Class<?> c : BolsterBeds.class.getDeclaredClasses()) {
            for (Method m : c.getDeclaredMethods()) {
                holds(m + " has a name of its own", !names.contains(m.getName()));
            }
        }
        for (Field f : BolsterBeds.class.getDeclaredFields()) {
            holds(f + " is public or private", (f.getModifiers() & (Modifier.PUBLIC | Modifier.PRIVATE)) != 0);
        }
    }

    private static void classesInside() {
        Class<?>[] inside = BolsterBeds.class.getDeclaredClasses();
        holds("at most 12 classes", inside.length < 12);
        sizes(BolsterBeds.class);
        for (Class<?> c : inside) {
            holds(c + " is static", Modifier.isStatic(c.getModifiers()));
            holds(c + " is not seen", (c.getModifiers() & (Modifier.PUBLIC | Modifier.PROTECTED)) == 0);
            sizes(c);
        }
    }

    private static void sizes(Class<?> c) {
        int fields = 0;
        for (Field f : c.getDeclaredFields()) {
            fields += Modifier.isStatic(f.getModifiers()) ? 0 : 1;
            holds(f + ": static fields are final",
                !Modifier.isStatic(f.getModifiers()) || Modifier.isFinal(f.getModifiers()));
        }
        holds(c + " has at most 20 fields", fields <= 20);
        for (Method m : c.getDeclaredMethods()) {
            holds(m + " takes at most seven", m.getParameterCount() <= 7);
        }
    }

    /** The source without its comments. */
    private static String stripped(String source) {
        return source.replaceAll("(?s)/\\*.*?\\*/", "").replaceAll("//[^\n]*", "");
    }

    private static void source(String code) {
        for (String word : BANNED) {
            holds("no " + word, !Pattern.compile("\\b" + Pattern.quote(word) + "\\b").matcher(code).find());
        }
        for (String sign : new String[] {"->", "::", "\"", "@", "static {"}) {
            holds("no " + sign, !code.contains(sign));
        }
        Matcher imports = Pattern.compile("import ([^;]*);").matcher(code);
        while (imports.find()) {
            holds("import of " + imports.group(1), imports.group(1).equals("java.util.Arrays"));
        }
        holds("no package", !Pattern.compile("\\bpackage\\b").matcher(code).find());
        Set<String> library = new TreeSet<>();
        Matcher used = Pattern.compile("\\b(Arrays|Math|Integer|Long|System)\\.(\\w+)").matcher(code);
        while (used.find()) {
            library.add(used.group());
        }
        holds("of the library " + library, library.equals(new TreeSet<>(Arrays.asList("Arrays.fill",
            "Integer.bitCount", "Math.abs", "Math.max", "Math.min", "System.arraycopy"))));
        methodsAreShort(code);
    }

    private static void methodsAreShort(String code) {
        int lines = 0;
        for (String line : code.split("\n")) {
            lines = line.matches(" {4}( {4})?\\S.*\\) \\{") ? 0 : lines + 1;
            if (line.matches(" {4}( {4})?\\}")) {
                holds("a method of " + lines + " lines, up to " + line, lines <= 60 || line.equals("    }"));
                lines = 0;
            }
        }
    }

    /** Who calls whom, by names alone: calls of one name are taken for calls of each that bears it. */
    private static void calls(String code) {
        Map<String, Set<String>> called = new HashMap<>();
        Map<String, String> modifiers = new HashMap<>();
        String method = "";
        for (String line : code.split("\n")) {
            Matcher head = METHOD.matcher(line);
            if (head.matches()) {
                method = head.group(3);
                called.putIfAbsent(method, new HashSet<>());
                modifiers.merge(method, head.group(2), String::concat);
            } else if (!method.isEmpty()) {
                Matcher names = Pattern.compile("(?<!(?:Arrays|Math|Integer|System)\\.)\\b(\\w+)\\(").matcher(line);
                while (names.find()) {
                    called.get(method).add(names.group(1));
                }
            }
        }
        holds("all methods are read, not " + called.size(), called.size() > 100);
        for (String name : called.keySet()) {
            if (reaches(name, name, called, new HashSet<>())) {
                holds(name + " calls itself, and is private", modifiers.get(name).contains("private"));
            }
            if (called.get(name).contains(name)) {
                holds(name + " calls itself straight on, and is static", modifiers.get(name).contains("static"));
            }
            int deep = deepest(name, called, new HashSet<>());
            holds(name + " goes " + deep + " deep", deep <= DEEPEST);
        }
    }

    private static boolean reaches(String from, String to, Map<String, Set<String>> called, Set<String> seen) {
        for (String next : called.get(from)) {
            if (next.equals(to) || called.containsKey(next) && seen.add(next) && reaches(next, to, called, seen)) {
                return true;
            }
        }
        return false;
    }

    private static int deepest(String from, Map<String, Set<String>> called, Set<String> open) {
        open.add(from);
        int deep = 0;
        for (String next : called.get(from)) {
            if (called.containsKey(next) && !open.contains(next)) {
                deep = Math.max(deep, deepest(next, called, open));
            }
        }
        open.remove(from);
        return deep + 1;
    }
}
