import java.util.ArrayList;
import java.util.Arrays;
import java.util.List;
import java.util.Random;

/** Long random runs of calls, on the editor and on the slow one. */
public final class ModelTest {
    private static final int RUNS = 700;
    private static final int CALLS = 512;

    public static void main(String[] args) {
        int wrong = 0;
        int good = 0;
        for (int run = 0; run < RUNS && wrong < 5; run++) {
            Driver driver = new Driver(run);
            String fault = driver.drive();
            if (fault != null) {
                wrong++;
                System.out.println("seed " + run + ": " + fault);
            }
            good += driver.changes;
        }
        System.out.println(RUNS + " runs, " + good + " changes, " + wrong + " runs with a wrong answer");
        if (wrong != 0 || good < RUNS * 50) {
            System.exit(1);
        }
    }

    /** One run: it chooses calls, more often those that can succeed, and compares the answers. */
    private static final class Driver {
        private final Random random;
        private final int style;
        private final PodcastEditor fast = new PodcastEditor();
        private final SlowEditor slow = new SlowEditor();
        private final List<String> said = new ArrayList<>();
        private int changes;
        private int calls;

        Driver(int seed) {
            random = new Random(seed * 7919L + 3);
            style = seed % 7;
        }

        String drive() {
            while (calls < CALLS) {
                String fault = step();
                if (fault != null) {
                    int from = Math.max(0, said.size() - 60);
                    return fault + "\n  after " + said.subList(from, said.size());
                }
            }
            return null;
        }

        private String step() {
            int kind = random.nextInt(100);
            if (calls < 12 && kind < 70) {
                return calls % 3 == 0 ? call("addSource", source()) : call("addClip", newClip());
            }
            if (style == 6 && slow.now.clips.size() < 22 && kind < 30) {
                return crowd();
            }
            if (kind < 45) {
                return edit();
            }
            if (kind < 48 && style != 1) {
                return typeText();
            }
            if (kind < 64) {
                return steps();
            }
            return ask();
        }

        /** Long clips in many parts, so that cuts and insertions find no room for more. */
        private String crowd() {
            if (slow.now.sources.isEmpty() || slow.now.sources.get(0).length() < 150) {
                return slow.now.sources.isEmpty() ? call("addSource", 1, 200, random.nextInt(1000), random.nextInt(1000)) : edit();
            }
            if (slow.now.clips.size() < 6) {
                return call("addClip", random.nextInt(4), random.nextInt(3) * 200, 0, 0, 150);
            }
            return call("divide", aClip(), 1 + random.nextInt(60));
        }

        private int[] source() {
            int k = random.nextInt(4);
            int b = k == 0 ? 0 : k == 2 ? 1 + random.nextInt(99) : random.nextInt(1000);
            return numbers(k, 1 + random.nextInt(200), random.nextInt(1000), b);
        }

        private int[] newClip() {
            int length = random.nextInt(4) == 0 ? 1 + random.nextInt(200) : 1 + random.nextInt(30);
            return numbers(random.nextInt(4), random.nextInt(600), random.nextInt(6), random.nextInt(60), length);
        }

        /** Now and then a number is put out of its range. */
        private int[] numbers(int... those) {
            if (random.nextInt(style == 2 ? 4 : 14) == 0) {
                int[] odd = {-1, -2, Integer.MIN_VALUE, Integer.MAX_VALUE, 1000, 600, 601, 599, 0, 24, 4, 5, 6, 12};
                those[random.nextInt(those.length)] = odd[random.nextInt(odd.length)];
            }
            return those;
        }

        private int aClip() {
            return random.nextInt(Math.max(1, slow.now.clips.size()));
        }

        private int aFrame() {
            int most = style == 3 ? 60 : 600;
            if (random.nextInt(3) == 0 && !slow.now.clips.isEmpty()) {
                SlowEditor.Clip clip = slow.now.clips.get(aClip());
                return Math.min(599, random.nextBoolean() ? clip.start() : clip.start() + clip.length());
            }
            return random.nextInt(most);
        }

        private String edit() {
            switch (random.nextInt(18)) {
                case 0: return call("addSource", source());
                case 1: return setting();
                case 2: return trackNumber();
                case 3: case 4: case 5: return call("addClip", newClip());
                case 6: case 7: return call("setClip", numbers(aClip(), random.nextInt(3), random.nextInt(random.nextBoolean() ? 12 : 201)));
                case 8: return call("moveClip", numbers(aClip(), random.nextInt(4), aFrame()));
                case 9: return call("trim", numbers(aClip(), random.nextInt(2), random.nextInt(30) - 15));
                case 10: return call("divide", numbers(aClip(), random.nextInt(20)));
                case 11: return call("remove", numbers(random.nextInt(style == 4 ? 24 : 60)));
                case 12: return call("copyClip", numbers(aClip(), random.nextInt(4), aFrame()));
                case 13: return cut();
                case 14: return call("insert", numbers(aFrame(), 1 + random.nextInt(random.nextInt(4) == 0 ? 600 : 8)));
                case 15: return call("chapter", numbers(aFrame(), random.nextInt(100)));
                case 16: return random.nextInt(3) == 0
                    ? call("dropChapter", numbers(random.nextInt(12))) : call("chapter", numbers(aFrame(), random.nextInt(100)));
                default: return random.nextInt(3) == 0
                    ? call("tighten", numbers(random.nextBoolean() ? 1 + random.nextInt(400) : 1 + random.nextInt(999), 1 + random.nextInt(20)))
                    : call("normalize", numbers(1 + random.nextInt(999)));
            }
        }

        private String cut() {
            int from = aFrame();
            int length = random.nextInt(5) == 0 ? random.nextInt(300) : random.nextInt(12);
            return call("cut", numbers(from, from + length));
        }

        private String setting() {
            int what = random.nextInt(5);
            int[] most = {400, 50, 999, 100, 2};
            int v = random.nextInt(most[what] + 3) - 1;
            if (what == 2 && random.nextBoolean()) {
                v = random.nextInt(150);
            }
            return call("set", numbers(what, v));
        }

        private String trackNumber() {
            int what = random.nextInt(7);
            int[] most = {200, 1, 1, 3, 999, 100, 20};
            int v = what == 3 ? random.nextInt(6) - 1 : random.nextInt(most[what] + 2);
            return call("setTrack", numbers(random.nextInt(4), what, v));
        }

        private String typeText() {
            StringBuilder text = new StringBuilder();
            int commands = 1 + random.nextInt(4);
            for (int i = 0; i < commands; i++) {
                text.append(i == 0 ? "" : ";").append(command());
            }
            if (random.nextInt(4) == 0) {
                int at = random.nextInt(text.length());
                String signs = "xidsmc;-+@=0123456789 ~y";
                char sign = signs.charAt(random.nextInt(signs.length()));
                switch (random.nextInt(3)) {
                    case 0: text.setCharAt(at, sign); break;
                    case 1: text.insert(at, sign); break;
                    default: text.setLength(at); break;
                }
            }
            for (int i = 0; i < text.length(); i++) {
                String fault = call("append", text.charAt(i));
                if (fault != null) {
                    return fault;
                }
            }
            String fault = call("execute");
            return fault != null ? fault : random.nextInt(2) == 0 ? call("refused", random.nextInt(3)) : null;
        }

        private String command() {
            int frame = aFrame();
            switch (random.nextInt(7)) {
                case 0: return "x" + number(frame) + "-" + number(frame + random.nextInt(9));
                case 1: return "i" + number(frame) + "+" + number(random.nextInt(9));
                case 2: return "d" + number(random.nextInt(24));
                case 3: return "s" + number(aClip()) + "@" + number(random.nextInt(12));
                case 4: return "m" + number(aClip()) + "@" + number(frame);
                default: return "c" + number(frame) + "=" + number(random.nextInt(104));
            }
        }

        private String number(int n) {
            return String.format(new String[] {"%d", "%02d", "%03d"}[random.nextInt(3)], Math.min(999, n));
        }

        private String steps() {
            switch (random.nextInt(style == 5 ? 9 : 14)) {
                case 0: return call("begin");
                case 1: case 2: return call("end");
                case 3: case 4: case 5: return undoAndRedo();
                case 6: return call("redo");
                case 7: return random.nextInt(4) == 0 ? call("save") : null;
                case 8: return random.nextInt(4) == 0 ? call("restore") : null;
                case 9: return call("write");
                default: return call("written", random.nextInt(100));
            }
        }

        private String undoAndRedo() {
            int undos = 1 + random.nextInt(random.nextInt(4) == 0 ? 12 : 2);
            int redos = random.nextInt(undos + 2);
            for (int i = 0; i < undos + redos; i++) {
                String fault = call(i < undos ? "undo" : "redo");
                if (fault != null) {
                    return fault;
                }
            }
            return call("count", 4 + random.nextInt(2));
        }

        private String ask() {
            int t = random.nextInt(4);
            int f = aFrame();
            switch (random.nextInt(22)) {
                case 0: return call("source", numbers(random.nextInt(6), random.nextInt(7)));
                case 1: return call("sourceValue", numbers(random.nextInt(6), random.nextInt(200)));
                case 2: return call("track", numbers(t, random.nextInt(13)));
                case 3: case 4: return call("clip", numbers(aClip(), random.nextInt(11)));
                case 5: return call("room", numbers(t, f, 1 + random.nextInt(random.nextInt(3) == 0 ? 600 : 60)));
                case 6: return call("clipAt", numbers(t, f));
                case 7: return call("explain", numbers(t, f));
                case 8: return call("ofChapter", numbers(random.nextInt(13), random.nextInt(5)));
                case 9: return call("chapterAt", numbers(f));
                case 10: case 11: return call("value", numbers(t, f, random.nextInt(5)));
                case 12: return call("mix", numbers(f));
                case 13: return call("peak", numbers(random.nextInt(6)));
                case 14: return call("level", numbers(random.nextInt(60)));
                case 15: return call("loudness", numbers(random.nextInt(6)));
                case 16: return random.nextInt(6) == 0 ? call("masterFor", numbers(1 + random.nextInt(999))) : null;
                case 17: return call("covered", numbers(t));
                case 18: return call("loudnessAgain");
                case 19: return call("silence", numbers(1 + random.nextInt(999), 1 + random.nextInt(20), random.nextInt(8) - 1, random.nextInt(3)));
                case 20: return call("ifCut", numbers(f, f + random.nextInt(40), random.nextInt(5)));
                default: return random.nextBoolean()
                    ? call("event", numbers(random.nextInt(40), random.nextInt(4))) : call("count", numbers(random.nextInt(14)));
            }
        }

        private String call(String method, int... a) {
            if (calls == CALLS) {
                return null;
            }
            calls++;
            int got = Calls.onFast(fast, method, a);
            int due = Calls.onSlow(slow, method, a);
            said.add(method + Arrays.toString(a) + "=" + due);
            if (due >= 0 && Calls.isChange(method)) {
                changes++;
            }
            return got == due ? null : method + Arrays.toString(a) + " answered " + got + ", due is " + due;
        }
    }
}
