import java.io.IOException;
import java.lang.reflect.Constructor;
import java.lang.reflect.Field;
import java.lang.reflect.Method;
import java.lang.reflect.Modifier;
import java.nio.file.Files;
import java.nio.file.Path;
import java.util.ArrayList;
import java.util.HashMap;
import java.util.HashSet;
import java.util.List;
import java.util.Map;
import java.util.Set;
import java.util.TreeSet;
import java.util.regex.Matcher;
import java.util.regex.Pattern;

/** The rules of LANGUAGE.md that can be seen from the source or by reflection. */
public final class LanguageTest {
    private static final Path SOURCE = Path.of("src/main/java/PodcastEditor.java");
    private static final String FACE = "addSource4 source2 sourceValue2 set2 setTrack3 track2 addClip5 clip2 setClip3"
        + " moveClip3 trim3 divide2 remove1 room3 copyClip3 clipAt2 explain2 cut2 insert2 chapter2 dropChapter1"
        + " ofChapter2 chapterAt1 value3 mix1 peak1 level1 loudness1 masterFor1 normalize1 covered1 loudnessAgain0"
        + " silence4 tighten2 ifCut3 event2 append1 execute0 refused1 write0 written1 begin0 end0 undo0 redo0 save0"
        + " restore0 count1";
    private static int wrong;

    public static void main(String[] args) throws IOException {
        String source = withoutComments(Files.readString(SOURCE));
        face();
        insideClasses();
        words(source);
        methods(source);
        calls(source);
        arrays();
        System.out.println(wrong == 0 ? "the rules are kept" : wrong + " faults");
        if (wrong != 0) {
            System.exit(1);
        }
    }

    private static void rule(boolean kept, String what) {
        if (!kept) {
            wrong++;
            System.out.println(what);
        }
    }

    private static String withoutComments(String source) {
        return source.replaceAll("(?s)/\\*.*?\\*/", "").replaceAll("//[^\n]*", "");
    }

    private static void face() {
        Set<String> open = new TreeSet<>();
        Set<String> hidden = new HashSet<>();
        for (Method m : PodcastEditor.class.getDeclaredMethods()) {
            if (Modifier.isPublic(m.getModifiers())) {
                open.add(m.getName() + m.getParameterCount());
                rule(m.getReturnType() == int.class, m.getName() + " answers no int");
                for (Class<?> type : m.getParameterTypes()) {
                    rule(type == int.class, m.getName() + " takes another type than int");
                }
            } else if (!m.isSynthetic()) {
                hidden.add(m.getName());
                rule(Modifier.isPrivate(m.getModifiers()), m.getName() + " is not private");
            }
        }
        rule(open.equals(new TreeSet<>(List.of(FACE.split(" ")))), "another face: " + open);
        for (String name : open) {
            rule(!hidden.contains(name.replaceAll("\\d+$", "")), name + " has a private namesake");
        }
        for (Field f : PodcastEditor.class.getDeclaredFields()) {
            boolean constant = Modifier.isPublic(f.getModifiers()) && Modifier.isFinal(f.getModifiers());
            rule(constant || Modifier.isPrivate(f.getModifiers()), f.getName() + " is not private");
            rule(!Modifier.isStatic(f.getModifiers()) || Modifier.isFinal(f.getModifiers()), f.getName() + " is static");
        }
        Constructor<?>[] constructors = PodcastEditor.class.getDeclaredConstructors();
        rule(constructors.length == 1 && Modifier.isPublic(constructors[0].getModifiers()), "constructors");
        rule(Modifier.isFinal(PodcastEditor.class.getModifiers()), "the class is not final");
    }

    private static void insideClasses() {
        Class<?>[] inside = PodcastEditor.class.getDeclaredClasses();
        rule(inside.length <= 12, "more than twelve classes");
        for (Class<?> c : inside) {
            rule(Modifier.isStatic(c.getModifiers()) && Modifier.isPrivate(c.getModifiers()), c + " is not static");
            rule(c.getDeclaredFields().length <= 20, c + " has many fields");
            for (Method m : c.getDeclaredMethods()) {
                rule(!(" " + FACE).matches(".* " + m.getName() + "\\d.*"), m + " has a public namesake");
            }
        }
    }

    private static void words(String source) {
        String[] never = {"throw", "throws", "try", "catch", "finally", "synchronized", "assert", "instanceof", "var",
            "record", "lambda", "Object", "System.out", "System.nanoTime", "Random", "Thread", "double", "float", "long",
            "volatile", "native", "protected", "String", "Exact", "hashCode", "equals", "toString", "yield"};
        for (String word : never) {
            rule(!Pattern.compile("\\b" + Pattern.quote(word) + "\\b").matcher(source).find(), "the word " + word);
        }
        rule(!source.contains("->") && !source.contains("::") && !source.contains("@"  + "Override"), "lambda or so");
        rule(source.chars().allMatch(c -> c == '\n' || c >= 32 && c < 127), "a sign that is not ASCII");
        Matcher imports = Pattern.compile("import ([^;]*);").matcher(source);
        while (imports.find()) {
            rule(imports.group(1).equals("java.util.Arrays"), "import of " + imports.group(1));
        }
        Matcher library = Pattern.compile("\\b(Math|System|Arrays|Integer)\\.(\\w+)").matcher(source);
        Set<String> allowed = Set.of("Math.min", "Math.max", "System.arraycopy", "Arrays.fill", "Integer.MAX_VALUE");
        while (library.find()) {
            rule(allowed.contains(library.group()), "the library's " + library.group());
        }
    }

    /** Objects come from fields and from constructors alone, so that calls make none. */
    private static void methods(String source) {
        String name = "";
        int lines = 0;
        for (String line : source.split("\n")) {
            if (isHead(line)) {
                name = line.trim();
                lines = 0;
                rule(line.split(",").length <= 7, "many parameters: " + line.trim());
            }
            lines++;
            rule(name.isEmpty() || lines <= 60 || !line.contains(";"), "a long method: " + name);
            boolean field = line.matches("\\s+(private )?final .* = new .*");
            boolean made = line.trim().equals("states[i] = new Project();");
            rule(!line.contains("new ") || field || made, "makes an object: " + line.trim());
        }
    }

    private static boolean isHead(String line) {
        return line.matches("\\s+(private |public |static |final )*[\\w\\[\\]]+ ?\\w*\\([^;]*\\) \\{")
            && !line.matches("\\s+(\\} )?(else|for|if|while|switch)\\b.*");
    }

    /** Which methods a method calls, by their names alone: namesakes count together, so that no call is overlooked. */
    private static void calls(String source) {
        Map<String, Set<String>> calls = new HashMap<>();
        String method = "";
        for (String line : source.split("\n")) {
            Matcher names = Pattern.compile("(\\w+)\\(").matcher(line);
            if (isHead(line) && names.find()) {
                method = names.group(1);
                calls.computeIfAbsent(method, m -> new TreeSet<>());
            }
            while (names.find()) {
                calls.computeIfAbsent(method, m -> new TreeSet<>()).add(names.group(1));
            }
        }
        int deepest = 0;
        for (String name : FACE.split(" ")) {
            deepest = Math.max(deepest, depth(calls, name.replaceAll("\\d+$", ""), new ArrayList<>()));
        }
        System.out.println("calls go " + deepest + " deep");
        rule(deepest >= 6 && deepest <= 8, "calls go " + deepest + " deep");
    }

    private static int depth(Map<String, Set<String>> calls, String name, List<String> open) {
        if (!calls.containsKey(name)) {
            return 0;
        }
        rule(!open.contains(name), "a method calls itself: " + open + " " + name);
        if (open.contains(name)) {
            return 0;
        }
        open.add(name);
        int deepest = 0;
        for (String other : calls.get(name)) {
            deepest = Math.max(deepest, depth(calls, other, open));
        }
        open.remove(name);
        return deepest + 1;
    }

    /** What one editor holds: 512 of them are to fit in one room. */
    private static void arrays() {
        List<Object> seen = new ArrayList<>();
        long elements = sizeOf(new PodcastEditor(), seen);
        System.out.println("an editor is made of " + seen.size() + " objects with " + elements + " fields and elements");
        rule(elements * 512 < 7_300_000, "an editor is large");
        rule(seen.size() * 512 < 600_000, "an editor has many objects");
    }

    private static long sizeOf(Object o, List<Object> seen) {
        if (o == null || seen.stream().anyMatch(s -> s == o)) {
            return 0;
        }
        seen.add(o);
        long size = 0;
        if (o instanceof int[] row) {
            return row.length;
        }
        if (o instanceof Object[] row) {
            size = row.length;
            for (Object each : row) {
                size += sizeOf(each, seen);
            }
            return size;
        }
        for (Field f : o.getClass().getDeclaredFields()) {
            if (Modifier.isStatic(f.getModifiers())) {
                continue;
            }
            size++;
            try {
                f.setAccessible(true);
                size += f.getType().isPrimitive() ? 0 : sizeOf(f.get(o), seen);
            } catch (IllegalAccessException e) {
                rule(false, "no look at " + f);
            }
        }
        return size;
    }
}
