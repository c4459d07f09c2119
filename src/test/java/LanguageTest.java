import java.io.IOException;
import java.lang.reflect.Constructor;
import java.lang.reflect.Method;
import java.lang.reflect.Modifier;
import java.nio.file.Files;
import java.nio.file.Path;
import java.util.ArrayList;
import java.util.List;
import java.util.TreeMap;
import java.util.TreeSet;
import java.util.regex.Matcher;
import java.util.regex.Pattern;

/** What of ../shared/LANGUAGE.md can be seen from the source and from the compiled face. */
public final class LanguageTest {
    private static final Due D = new Due("LanguageTest");

    private static final String FACE = "ElevenYoghurts() person(int) personIs(int,int) become(int,int) as(int,int) feel(int,int,int) thing(int,int,int,int) "
        + "thingIs(int,int) mark(int,int,int) anew(int) feed(long,int) text(int) untell(int) law(int,int,int,int) urge(int,int) guard(int,int) comes(int,int) "
        + "hours(int) friday(int) seed(int) wants(int,int,int) trap(int,int) safest(int) lock(int) round(int,int) odds(int,int) who(int) lost(int,int) oldest() "
        + "voice(int,int,int) body(int) sheet(int,int,int) put(int,int,int) move(int,int,int,int,int) labels(int) judge(int) image() restore() tell(int) check() "
        + "count(int) told(int)";

    public static void main(String[] args) throws IOException {
        face();
        String source = code(Files.readString(Path.of("src/main/java/ElevenYoghurts.java")));
        words(source);
        library(source);
        methods(source);
        calls(source);
        classes();
        D.finish();
    }

    private static void face() {
        TreeSet<String> seen = new TreeSet<>();
        for (Constructor<?> c : ElevenYoghurts.class.getDeclaredConstructors()) {
            if (!Modifier.isPrivate(c.getModifiers())) seen.add("ElevenYoghurts" + parameters(c.getParameterTypes()));
        }
        for (Method m : ElevenYoghurts.class.getDeclaredMethods()) {
            if (Modifier.isPrivate(m.getModifiers())) continue;
            seen.add(m.getName() + parameters(m.getParameterTypes()));
            D.due(m.getName() + " is public and not static", m.getModifiers(), Modifier.PUBLIC);
            D.due(m.getName() + " answers an int", m.getReturnType() == int.class ? 1 : 0, 1);
        }
        TreeSet<String> due = new TreeSet<>(List.of(FACE.split(" ")));
        D.due("the face " + seen, seen.equals(due) ? 1 : 0, 1);
        D.due("the class is public and final", ElevenYoghurts.class.getModifiers(), Modifier.PUBLIC | Modifier.FINAL);
        for (java.lang.reflect.Field f : ElevenYoghurts.class.getDeclaredFields()) {
            D.due(f.getName() + " is private", Modifier.isPrivate(f.getModifiers()) ? 1 : 0, 1);
        }
    }

    private static String parameters(Class<?>[] types) {
        List<String> names = new ArrayList<>();
        for (Class<?> t : types) names.add(t.getName());
        return "(" + String.join(",", names) + ")";
    }

    /** The source without its comments and texts. */
    private static String code(String source) {
        return source.replaceAll("(?s)/\\*.*?\\*/", " ").replaceAll("//[^\\n]*", " ").replaceAll("\"(\\\\.|[^\"\\\\])*\"", "\"\"");
    }

    private static void words(String source) {
        String[] forbidden = {"throw", "throws", "try", "catch", "finally", "synchronized", "assert", "package", "volatile", "transient", "native", "protected",
            "Object", "hashCode", "toString\\s*\\(\\)\\s*\\{", "boolean equals", "\\w+Exact\\b", "var", "default\\s*->", "->", "::",
            "System\\.(?!arraycopy)", "(?:Math|Integer|Long)\\.(?!min|max|abs|compare|bitCount|floorDiv|floorMod|MIN_VALUE|MAX_VALUE)",
            "Arrays\\.(?!fill|copyOf)", "@(?!Override)\\w+", "\\?\\s*>", "new\\s+\\w+(\\[[^\\]]*\\]|\\([^)]*\\))\\s*\\{"};
        for (String word : forbidden) {
            String bounded = word.matches("\\w+") ? "\\b" + word + "\\b" : word;
            D.due("without " + word, Pattern.compile(bounded).matcher(source).find() ? 1 : 0, 0);
        }
        for (int i = 0; i < source.length(); i++) if (source.charAt(i) > 126) D.due("a sign above 126 at " + i, 1, 0);
    }

    private static void library(String source) {
        Matcher imports = Pattern.compile("import ([^;]*);").matcher(source);
        while (imports.find()) D.due("import " + imports.group(1), List.of("java.util.Arrays", "java.util.ArrayList", "java.util.List").contains(imports.group(1)) ? 1 : 0, 1);
    }

    /** Length, parameters, and names of the methods. */
    private static void methods(String source) {
        String[] lines = source.split("\n");
        Pattern head = Pattern.compile("^( {4}| {8})(public |private )?(static )?[\\w\\[\\]]+ (\\w+)\\(([^)]*)\\) \\{$");
        TreeSet<String> open = new TreeSet<>();
        for (String call : FACE.split(" ")) open.add(call.substring(0, call.indexOf('(')));
        int found = 0;
        for (int i = 0; i < lines.length; i++) {
            Matcher m = head.matcher(lines[i]);
            if (!m.find() || Character.isUpperCase(m.group(4).charAt(0))) continue;
            found++;
            int end = i;
            while (end < lines.length && !lines[end].equals(m.group(1) + "}")) end++;
            D.due(m.group(4) + " has at most 60 lines", end - i > 60 ? end - i : 0, 0);
            D.due(m.group(4) + " has at most 7 parameters", m.group(5).split(",").length > 7 ? 1 : 0, 0);
            boolean isPublic = "public ".equals(m.group(2));
            D.due(m.group(4) + " bears a name of the face", open.contains(m.group(4)) ? 1 : 0, isPublic ? 1 : 0);
        }
        D.due("methods were found", found >= 42 ? 1 : 0, 1);
    }

    /**
     * How deep calls go from the face, a recursion counted once, and that no call makes an object or an array. A method
     * is known by its class and name; a call "x.name(" may be that of any other class that has one of this name.
     */
    private static void calls(String source) {
        TreeMap<String, String> bodies = bodies(source);
        TreeMap<String, TreeSet<String>> called = new TreeMap<>();
        Pattern call = Pattern.compile("(\\.)?\\b(\\w+)\\(");
        for (String caller : bodies.keySet()) {
            TreeSet<String> found = new TreeSet<>();
            String own = caller.substring(0, caller.indexOf('.'));
            Matcher m = call.matcher(bodies.get(caller));
            while (m.find()) {
                for (String other : bodies.keySet()) {
                    if (other.endsWith("." + m.group(2)) && (m.group(1) == null || !other.startsWith(own + "."))) found.add(other);
                }
            }
            called.put(caller, found);
        }
        D.due("judge calls others", called.get("ElevenYoghurts.judge").contains("Fridge.hourByDraws") ? 1 : 0, 1);
        for (String caller : bodies.keySet()) {
            D.due(caller + " makes nothing", Pattern.compile("\\bnew\\b|\\.clone\\(|Arrays\\.copyOf").matcher(bodies.get(caller)).find() ? 1 : 0, 0);
            int deep = deepest(caller, called, new ArrayList<>());
            D.due(caller + " is at most eight deep", deep > 8 ? deep : 0, 0);
        }
    }

    private static TreeMap<String, String> bodies(String source) {
        TreeMap<String, String> bodies = new TreeMap<>();
        String[] lines = source.split("\n");
        Pattern head = Pattern.compile("^( {4}| {8})(?:public |private )?(?:static )?[\\w\\[\\]]+ (\\w+)\\([^)]*\\) \\{$");
        String inside = "ElevenYoghurts";
        for (int i = 0; i < lines.length; i++) {
            Matcher nested = Pattern.compile("^    private static final class (\\w+) \\{$").matcher(lines[i]);
            if (nested.find()) inside = nested.group(1);
            Matcher m = head.matcher(lines[i]);
            if (!m.find() || Character.isUpperCase(m.group(2).charAt(0))) continue;
            StringBuilder body = new StringBuilder();
            for (int j = i + 1; j < lines.length && !lines[j].equals(m.group(1) + "}"); j++) body.append(lines[j]).append('\n');
            bodies.put((m.group(1).length() == 4 ? "ElevenYoghurts" : inside) + "." + m.group(2), body.toString());
        }
        return bodies;
    }

    private static int deepest(String from, TreeMap<String, TreeSet<String>> called, List<String> open) {
        if (open.contains(from)) return 0;
        open.add(from);
        int most = 0;
        for (String next : called.get(from)) most = Math.max(most, deepest(next, called, open));
        open.remove(open.size() - 1);
        return most + 1;
    }

    private static void classes() {
        Class<?>[] inside = ElevenYoghurts.class.getDeclaredClasses();
        D.due("at most 12 classes", inside.length > 11 ? inside.length : 0, 0);
        for (Class<?> c : inside) {
            D.due(c.getName() + " is static", Modifier.isStatic(c.getModifiers()) ? 1 : 0, 1);
            D.due(c.getName() + " is not public", c.getModifiers() & (Modifier.PUBLIC | Modifier.PROTECTED), 0);
        }
        List<Class<?>> all = new ArrayList<>(List.of(inside));
        all.add(ElevenYoghurts.class);
        for (Class<?> c : all) {
            int fields = 0;
            for (java.lang.reflect.Field f : c.getDeclaredFields()) {
                if (!Modifier.isStatic(f.getModifiers())) fields++;
                else D.due(c.getName() + "." + f.getName() + " is final", Modifier.isFinal(f.getModifiers()) ? 1 : 0, 1);
            }
            D.due(c.getName() + " has at most 20 fields", fields > 20 ? fields : 0, 0);
        }
    }
}
