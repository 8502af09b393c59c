import java.io.File;
import java.io.IOException;
import java.nio.file.Files;
import java.nio.file.Path;
import java.util.ArrayList;
import java.util.List;
import java.util.regex.Matcher;
import java.util.regex.Pattern;

/** README.md as it stands: its example, and the names of tests and classes. */
public final class ReadmeTest extends Edges {
    private static final Path README = Path.of("README.md");
    private static final Path TESTS = Path.of("src/test/java");
    private static final String FIRST_LINE = "PodcastEditor editor = new PodcastEditor();";

    public static void main(String[] args) throws IOException {
        String readme = Files.readString(README);
        String here = Files.readString(TESTS.resolve("ReadmeTest.java"));
        example(readme, here);
        files(readme);
        classes(readme);
        finish();
    }

    /** The lines from the first one of the example on, without those around them. */
    private static List<String> lines(String text, String end) {
        List<String> lines = new ArrayList<>();
        int from = text.indexOf(FIRST_LINE + "\n");
        int to = from < 0 ? -1 : text.indexOf(end, from);
        for (String line : text.substring(Math.max(0, from), Math.max(0, to)).split("\n")) {
            if (!line.isBlank()) {
                lines.add(line.trim().replaceAll("\\s+", " "));
            }
        }
        return lines;
    }

    private static int[] asInReadme() {
        PodcastEditor editor = new PodcastEditor();
        int tone = editor.addSource(0, 40, 300, 0);    // kind, length, a, b
        int clip = editor.addClip(0, 0, tone, 0, 40);  // track, start, source, offset, length
        editor.setClip(clip, 1, 4);                    // a fade in of 4 frames
        int cut = editor.cut(10, 20);                  // 10
        int mix = editor.mix(0);                       // 60
        int loudness = editor.loudness(4);             // 81600
        for (char sign : "c5=1;i5+3".toCharArray()) {  // a chapter at frame 5, then 3 frames are inserted there
            editor.append(sign);
        }
        int commands = editor.execute();               // 2
        int chapter = editor.ofChapter(0, 0);          // 8
        editor.begin();                                // from here to end() all is one step
        editor.remove(0);
        editor.normalize(100);
        int changes = editor.end();                    // 2
        int left = editor.undo();                      // 5
        int clips = editor.count(1);                   // 3
        int wrong = editor.clip(3, 0);                 // -1
        return new int[] {cut, mix, loudness, commands, chapter, changes, left, clips, wrong};
    }

    private static void example(String readme, String here) {
        part("README.md");
        List<String> told = lines(readme, "```");
        test("its example is the one that is compiled here", () -> {
            List<String> compiled = lines(here.substring(here.indexOf("int[] asInReadme()")), "return new int[]");
            due(told.size(), compiled.size());
            for (int i = 0; i < Math.min(told.size(), compiled.size()); i++) {
                if (!told.get(i).equals(compiled.get(i))) {
                    System.out.println("    told: " + told.get(i) + "\n    compiled: " + compiled.get(i));
                }
                due(1, told.get(i).equals(compiled.get(i)) ? 1 : 0);
            }
        });
        test("its example answers what is said behind it", () -> {
            int[] answers = asInReadme();
            int at = 0;
            for (String line : told) {
                Matcher said = Pattern.compile(".*; // (-?\\d+)").matcher(line);
                if (said.matches()) {
                    due(Integer.parseInt(said.group(1)), at < answers.length ? answers[at] : MIN);
                    at++;
                }
            }
            due(answers.length, at);
        });
    }

    private static void files(String readme) {
        test("it names each file of tests, and none that is not there", () -> {
            String[] names = TESTS.toFile().list();
            due(1, names != null && names.length > 0 ? 1 : 0);
            for (String name : names == null ? new String[0] : names) {
                isThere(readme, "`" + name.replace(".java", "") + "`");
            }
            Matcher tests = Pattern.compile("`(\\w+Test)`").matcher(readme);
            while (tests.find()) {
                due(1, Files.exists(TESTS.resolve(tests.group(1) + ".java")) ? 1 : 0);
            }
        });
        test("the script that it names is there and can be run", () -> {
            isThere(readme, "`.ci/run`");
            due(1, new File(".ci/run").canExecute() ? 1 : 0);
        });
    }

    private static void classes(String readme) {
        test("it names each class inside the editor", () -> {
            for (Class<?> inside : PodcastEditor.class.getDeclaredClasses()) {
                isThere(readme, "`" + inside.getSimpleName() + "`");
            }
        });
        test("it names each error code", () -> {
            for (String code : List.of("NONE", "BAD", "FULL", "OVERLAP", "REFUSED", "NOTHING")) {
                isThere(readme, "`" + code + "`");
            }
        });
    }

    private static void isThere(String text, String words) {
        if (!text.contains(words)) {
            System.out.println("    not there: " + words);
        }
        due(1, text.contains(words) ? 1 : 0);
    }
}
