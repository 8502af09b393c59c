import java.util.ArrayList;
import java.util.Arrays;
import java.util.List;

/** Every method with every combination of edges for its parameters, on several states, compared with the slow editor. */
public final class GridTest {
    private static final int MIN = Integer.MIN_VALUE;
    private static final int MAX = Integer.MAX_VALUE;
    private static final int MOST_CALLS = 512;

    private static final int[] TRACK = {MIN, -1, 0, 1, 3, 4, MAX};
    private static final int[] SOURCE = {MIN, -1, 0, 1, 2, 3, 6, MAX};
    private static final int[] CLIP = {MIN, -1, 0, 1, 3, 4, 22, 23, 24, MAX};
    private static final int[] CHAPTER = {MIN, -1, 0, 1, 2, 3, 11, 12, MAX};
    private static final int[] FRAME = {MIN, -1, 0, 1, 5, 19, 20, 25, 30, 35, 39, 40, 580, 589, 590, 599, 600, MAX};
    private static final int[] FEW_FRAMES = {MIN, -1, 0, 20, 40, 571, 572, 590, 599, 600, MAX};
    private static final int[] BORDER = {MIN, -1, 0, 1, 2, 5, 10, 20, 30, 35, 36, 40, 69, 590, 599, 600, 601, MAX};
    private static final int[] LENGTH = {MIN, -1, 0, 1, 2, 10, 11, 199, 200, 201, MAX};
    private static final int[] MANY = {MIN, -1, 0, 1, 2, 5, 10, 560, 561, 599, 600, 601, MAX};
    private static final int[] OFFSET = {MIN, -1, 0, 1, 30, 39, 40, 199, 200, MAX};
    private static final int[] TRIMMED = {MIN, -200, -41, -40, -31, -30, -20, -11, -10, -6, -5, -2, -1, 0, 1, 2, 8, 9, 10, 19, 20, MAX};
    private static final int[] SIDE = {MIN, -1, 0, 1, 2, MAX};
    private static final int[] WHAT = {MIN, -1, 0, 1, 2, 3, 4, 5, 6, 7, 8, 9, 10, 11, 12, 13, MAX};
    private static final int[] FEW_WHATS = {-1, 0, 1, 2, 3, 4, 5};
    private static final int[] NUMBER = {MIN, -2, -1, 0, 1, 2, 3, 4, 5, 10, 20, 21, 50, 51, 99, 100, 101, 200, 201, 400, 401,
        999, 1000, MAX};
    private static final int[] GREATEST = {MIN, -1, 0, 1, 100, 500, 998, 999, 1000, MAX};
    private static final int[] TITLE = {MIN, -1, 0, 1, 98, 99, 100, MAX};
    private static final int[] CODE = {MIN, -1, 0, 31, 32, 'c', 126, 127, 128, MAX};
    private static final int[] SILENCE = {MIN, -2, -1, 0, 1, 2, 9, 299, 300, MAX};
    private static final int[] FEW_NUMBERS = {-1, 0, 1, 2, 3, 5, 99, 100, 999, 1000};
    private static final int[] SMALL = {MIN, -1, 0, 1, 3, 5, 7, 20, 600, 601, MAX};

    /** A method and the numbers that are tried for each of its parameters. */
    private record Row(String method, int[]... numbers) {
    }

    private record Call(String method, int... numbers) {
    }

    private static final Row[] ROWS = {
        new Row("addSource", SIDE, LENGTH, GREATEST, FEW_NUMBERS), new Row("addSource", new int[] {0, 1, 2, 3, 4}, LENGTH, GREATEST, FEW_NUMBERS),
        new Row("source", SOURCE, WHAT), new Row("sourceValue", SOURCE, LENGTH), new Row("set", WHAT, NUMBER),
        new Row("setTrack", TRACK, WHAT, NUMBER), new Row("track", TRACK, WHAT),
        new Row("addClip", new int[] {-1, 0, 2, 3, 4}, FEW_FRAMES, new int[] {-1, 0, 1, 3}, new int[] {MIN, -1, 0, 1, 190, 199, 200, MAX}, LENGTH),
        new Row("clip", CLIP, WHAT), new Row("setClip", CLIP, SIDE, NUMBER), new Row("setClip", CLIP, WHAT, FEW_NUMBERS),
        new Row("moveClip", CLIP, TRACK, FRAME), new Row("trim", CLIP, SIDE, TRIMMED), new Row("divide", CLIP, TRIMMED),
        new Row("remove", CLIP), new Row("room", TRACK, FRAME, MANY), new Row("copyClip", CLIP, TRACK, FRAME),
        new Row("clipAt", TRACK, FRAME), new Row("explain", TRACK, FRAME), new Row("cut", BORDER, BORDER), new Row("insert", FRAME, MANY),
        new Row("chapter", FRAME, TITLE), new Row("dropChapter", CHAPTER), new Row("ofChapter", CHAPTER, FEW_WHATS),
        new Row("chapterAt", FRAME), new Row("value", TRACK, FRAME, FEW_WHATS), new Row("mix", FRAME), new Row("peak", WHAT),
        new Row("level", BORDER), new Row("loudness", WHAT), new Row("masterFor", GREATEST), new Row("normalize", GREATEST),
        new Row("covered", TRACK), new Row("loudnessAgain"), new Row("silence", GREATEST, SMALL, SILENCE, FEW_WHATS),
        new Row("tighten", GREATEST, SMALL), new Row("ifCut", BORDER, BORDER, FEW_WHATS), new Row("event", CHAPTER, FEW_WHATS),
        new Row("append", CODE), new Row("execute"), new Row("refused", WHAT), new Row("write"), new Row("written", BORDER),
        new Row("begin"), new Row("end"), new Row("undo"), new Row("redo"), new Row("save"), new Row("restore"), new Row("count", WHAT)};

    private static int compared;
    private static int wrong;

    private final List<Call> state;
    private final String name;
    private PodcastEditor fast;
    private SlowEditor slow;
    private int calls;

    private GridTest(String name, List<Call> state) {
        this.name = name;
        this.state = state;
        renew();
    }

    public static void main(String[] args) {
        new GridTest("a new editor", List.of()).all();
        new GridTest("a busy editor", busy()).all();
        new GridTest("a busy editor with an open group", open()).all();
        new GridTest("a full editor", full()).all();
        new GridTest("an editor with 23 clips", almostFull()).all();
        System.out.println(compared + " answers compared, " + wrong + " wrong");
        if (wrong != 0 || compared < 100_000) {
            System.exit(1);
        }
    }

    private static Call call(String method, int... numbers) {
        return new Call(method, numbers);
    }

    private static void type(List<Call> calls, String text) {
        for (char sign : text.toCharArray()) {
            calls.add(call("append", sign));
        }
    }

    private static List<Call> busy() {
        List<Call> calls = new ArrayList<>(List.of(call("addSource", 1, 200, 0, 200), call("addSource", 0, 40, 600, 0),
            call("addSource", 2, 100, 900, 7), call("addClip", 0, 0, 0, 5, 20), call("addClip", 0, 30, 1, 0, 10),
            call("addClip", 1, 10, 2, 3, 30), call("addClip", 3, 590, 0, 40, 10), call("setClip", 0, 1, 4), call("setClip", 0, 2, 5),
            call("chapter", 5, 1), call("chapter", 35, 2), call("chapter", 599, 3), call("setTrack", 0, 3, 1), call("save"),
            call("setTrack", 1, 0, 80), call("set", 1, 20), call("write"), call("set", 2, 12), call("set", 3, 99), call("set", 0, 90),
            call("undo"), call("undo")));
        type(calls, "c1=1;d9");
        calls.add(call("execute"));
        type(calls, "c7=7;d1");
        return calls;
    }

    private static List<Call> open() {
        List<Call> calls = busy();
        calls.add(call("begin"));
        calls.add(call("setClip", 1, 0, 150));
        return calls;
    }

    /** Six sources, 24 clips, 12 chapters, 60 characters, 10 steps, and a muted clip over many others. */
    private static List<Call> full() {
        List<Call> calls = almostFull();
        calls.add(call("addClip", 1, 1, 0, 0, 70));
        calls.add(call("setTrack", 1, 1, 1));
        for (int i = 0; i < 12; i++) {
            calls.add(call("chapter", i == 11 ? 599 : 5 * i, i));
        }
        type(calls, "c1=1;c2=2;c3=3;c4=4;c5=5;c6=6;c7=7;c8=8;c9=9;x10-12;i20+006;");
        return calls;
    }

    private static List<Call> almostFull() {
        List<Call> calls = new ArrayList<>();
        for (int i = 0; i < 6; i++) {
            calls.add(call("addSource", i % 4, 200 - i, 999 - i, i % 4 == 0 ? 0 : 90 + i));
        }
        for (int i = 0; i < 23; i++) {
            calls.add(call("addClip", i < 20 ? 0 : i == 22 ? 3 : 2, i == 22 ? 590 : 5 * (i % 20), i % 6, i, i == 22 ? 10 : 2 + i % 3));
        }
        return calls;
    }

    private void renew() {
        fast = new PodcastEditor();
        slow = new SlowEditor();
        calls = 0;
        for (Call c : state) {
            ask(c.method, c.numbers);
        }
    }

    private int ask(String method, int... numbers) {
        calls++;
        int got = Calls.onFast(fast, method, numbers);
        int due = Calls.onSlow(slow, method, numbers);
        compared++;
        if (got != due && wrong++ < 20) {
            System.out.println(name + ": " + method + Arrays.toString(numbers) + " answered " + got + ", due is " + due);
        }
        return due;
    }

    private void all() {
        for (Row row : ROWS) {
            int[] numbers = new int[row.numbers.length];
            combine(row, 0, numbers);
        }
    }

    private void combine(Row row, int parameter, int[] numbers) {
        if (parameter == numbers.length) {
            one(row.method, numbers);
            return;
        }
        for (int v : row.numbers[parameter]) {
            numbers[parameter] = v;
            combine(row, parameter + 1, numbers);
        }
    }

    /** An editor is used again as long as nothing changed in it. */
    private void one(String method, int[] numbers) {
        int due = ask(method, numbers);
        boolean asks = !Calls.isChange(method) && !method.matches("append|begin|end|undo|redo|save|restore|write");
        boolean same = asks || due < 0 && due != SlowEditor.NOTHING && !method.equals("execute");
        if (!same) {
            look();
        }
        if (!same || calls > MOST_CALLS - 120) {
            renew();
        }
    }

    private void look() {
        for (int what = 0; what < 13; what++) {
            ask("count", what);
        }
        for (int i = 0; i < 24; i++) {
            ask("clip", i, 1);
            ask("clip", i, 4);
            ask("clip", i, 9);
        }
        for (int i = 0; i < 12; i++) {
            ask("ofChapter", i, 0);
            ask("ofChapter", i, 1);
        }
        for (int i = 0; i < 4; i++) {
            ask("track", i, 11);
        }
        ask("peak", 4);
    }
}
