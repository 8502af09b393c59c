import java.util.ArrayList;
import java.util.List;

/** Named tests, one for each sentence of the document that names an edge, and what these tests share. */
abstract class Edges {
    static final int NONE = -1;
    static final int BAD = -2;
    static final int FULL = -3;
    static final int OVERLAP = -4;
    static final int REFUSED = -5;
    static final int NOTHING = -6;
    static final int MIN = Integer.MIN_VALUE;
    static final int MAX = Integer.MAX_VALUE;

    /** Makes an editor, always by the same calls. */
    interface Build {
        PodcastEditor make();
    }

    /** A call, or some, of which the last one's answer counts. */
    interface Ask {
        int of(PodcastEditor x);
    }

    private static final int MOST_TOLD = 4;

    private static String part = "";
    private static String sentence = "";
    private static int tests;
    private static int answers;
    private static int failed;
    private static int faults;

    static void part(String name) {
        part = name;
    }

    static void test(String what, Runnable body) {
        sentence = what;
        faults = 0;
        int before = answers;
        body.run();
        tests++;
        if (before == answers) {
            fault("looks at no answer");
        }
        failed += faults == 0 ? 0 : 1;
    }

    static void finish() {
        System.out.println(tests + " sentences, " + answers + " answers looked at, " + failed + " sentences broken");
        if (failed != 0 || tests == 0) {
            System.exit(1);
        }
    }

    private static void fault(String what) {
        if (faults == 0) {
            System.out.println(part + ": " + sentence);
        }
        faults++;
        if (faults <= MOST_TOLD) {
            System.out.println("    " + what);
        }
    }

    private static String place() {
        return StackWalker.getInstance().walk(frames -> frames
            .filter(f -> !f.getClassName().split("\\$")[0].equals("Edges")).findFirst().map(f -> "line " + f.getLineNumber()).orElse(""));
    }

    static void due(int want, int got) {
        answers++;
        if (got != want) {
            fault(place() + ": answered " + got + ", due is " + want);
        }
    }

    /** Each of these calls, on an editor of its own. */
    static void dueAll(Build build, int want, Ask... calls) {
        for (int i = 0; i < calls.length; i++) {
            answers++;
            int got = calls[i].of(build.make());
            if (got != want) {
                fault(place() + ", call " + i + ": answered " + got + ", due is " + want);
            }
        }
    }

    /** Each of these calls, on an editor of its own, answers this and leaves all as it was. */
    static void refuses(Build build, int want, Ask... calls) {
        dueAll(build, want, calls);
        for (Ask call : calls) {
            same(build, call, x -> 0);
        }
    }

    /** After the one call and after the other one, all that can be asked is the same, and so it is further on. */
    static void same(Build build, Ask one, Ask other) {
        for (int probe = 0; probe < PROBES.length; probe++) {
            PodcastEditor x = build.make();
            PodcastEditor y = build.make();
            one.of(x);
            other.of(y);
            due(PROBES[probe].of(y), PROBES[probe].of(x));
            List<Integer> wanted = picture(y);
            List<Integer> got = picture(x);
            answers++;
            if (!got.equals(wanted)) {
                fault(place() + ": behind probe " + probe + " the pictures differ: " + difference(got, wanted));
            }
        }
    }

    private static final Ask[] PROBES = {x -> 0, x -> x.refused(0), x -> x.refused(1), x -> x.undo(), x -> x.redo(),
        x -> x.restore(), x -> x.end(), x -> x.execute(), x -> x.append('0')};

    private static String difference(List<Integer> got, List<Integer> wanted) {
        int at = 0;
        while (at < got.size() && at < wanted.size() && got.get(at).equals(wanted.get(at))) {
            at++;
        }
        return "at " + at + " " + got.subList(at, Math.min(got.size(), at + 5)) + " for "
            + wanted.subList(at, Math.min(wanted.size(), at + 5));
    }

    /** What the state answers: the counts, sources, tracks, clips, chapters, the written text and sums of what is heard. */
    static List<Integer> picture(PodcastEditor x) {
        List<Integer> all = new ArrayList<>();
        for (int what = 0; what < 13; what++) {
            all.add(x.count(what));
        }
        int sources = all.get(0);
        int clips = all.get(1);
        int chapters = all.get(2);
        for (int i = 0; i < sources * 4; i++) {
            all.add(x.source(i / 4, i % 4));
        }
        for (int i = 0; i < 28; i++) {
            all.add(x.track(i / 7, i % 7));
        }
        for (int i = 0; i < clips * 8; i++) {
            all.add(x.clip(i / 8, i % 8));
        }
        for (int i = 0; i < chapters * 2; i++) {
            all.add(x.ofChapter(i / 2, i % 2));
        }
        int code = x.written(0);
        for (int i = 1; i <= 96 && code >= 0; i++) {
            all.add(code);
            code = x.written(i);
        }
        all.add(x.peak(4));
        all.add(x.loudness(4));
        return all;
    }

    /** The clip's numbers 0 to 7, as many as are given. */
    static void dueClip(PodcastEditor x, int clip, int... numbers) {
        for (int what = 0; what < numbers.length; what++) {
            due(numbers[what], x.clip(clip, what));
        }
    }

    /** The track, start, offset and length of all clips, in turn. */
    static void dueClips(PodcastEditor x, int... numbers) {
        due(numbers.length / 4, x.count(1));
        int[] whats = {0, 1, 3, 4};
        for (int i = 0; i < numbers.length; i++) {
            due(numbers[i], x.clip(i / 4, whats[i % 4]));
        }
    }

    /** The frames and titles of all chapters, in turn. */
    static void dueChapters(PodcastEditor x, int... numbers) {
        due(numbers.length / 2, x.count(2));
        for (int i = 0; i < numbers.length; i++) {
            due(numbers[i], x.ofChapter(i / 2, i % 2));
        }
    }

    static int type(PodcastEditor x, String text) {
        for (int i = 0; i < text.length(); i++) {
            x.append(text.charAt(i));
        }
        return x.count(7);
    }

    static int run(PodcastEditor x, String text) {
        type(x, text);
        return x.execute();
    }

    static PodcastEditor empty() {
        return new PodcastEditor();
    }

    /** An editor with one tone of 200 frames with this value. */
    static PodcastEditor tone(int a) {
        PodcastEditor x = empty();
        x.addSource(0, 200, a, 0);
        return x;
    }

    /** An editor with a tone that is heard on these frames of track 0. */
    static PodcastEditor heard(int a, int start, int length) {
        PodcastEditor x = tone(a);
        x.addClip(0, start, 0, 0, length);
        return x;
    }

    /** An editor with one ramp, whose values are the numbers of its 200 frames. */
    static PodcastEditor ramp() {
        PodcastEditor x = empty();
        x.addSource(1, 200, 0, 200);
        return x;
    }

    /** The ramp's frames from 20 to 29 on the frames 100 to 109 of track 1, with a gain and fades. */
    static PodcastEditor one() {
        PodcastEditor x = ramp();
        x.addClip(1, 100, 0, 20, 10);
        x.setClip(0, 0, 70);
        x.setClip(0, 1, 3);
        x.setClip(0, 2, 4);
        return x;
    }

    /** An editor with so many clips of two frames each, three frames apart, on track 0. */
    static PodcastEditor crowd(int clips) {
        PodcastEditor x = tone(100);
        for (int i = 0; i < clips; i++) {
            x.addClip(0, 3 * i, 0, 0, 2);
        }
        return x;
    }

    /** An editor with so many chapters, on the frames 10, 20, 30 and so on, with the titles 1, 2, 3 and so on. */
    static PodcastEditor chapters(int chapters) {
        PodcastEditor x = tone(100);
        for (int i = 1; i <= chapters; i++) {
            x.chapter(10 * i, i);
        }
        return x;
    }

    /** An editor that holds some of all there is, with steps behind and ahead, a snapshot and a refused text. */
    static PodcastEditor idle() {
        PodcastEditor x = ramp();
        x.addSource(0, 40, 600, 0);
        x.addSource(2, 100, 900, 7);
        x.addClip(0, 0, 0, 5, 20);
        x.addClip(0, 30, 1, 0, 10);
        x.addClip(1, 10, 2, 3, 30);
        x.addClip(3, 590, 0, 40, 10);
        x.save();
        x.setClip(0, 1, 4);
        x.setClip(0, 2, 5);
        x.chapter(5, 1);
        x.chapter(35, 2);
        x.chapter(599, 3);
        x.write();
        x.setTrack(0, 3, 1);
        x.setTrack(1, 0, 80);
        x.set(1, 20);
        run(x, "c1=1;m0@25");
        x.set(0, 90);
        x.set(0, 80);
        x.undo();
        return x;
    }

    /** The same with a text that waits. */
    static PodcastEditor busy() {
        PodcastEditor x = idle();
        type(x, "c7=7;d1");
        return x;
    }

    /** The same in a group with one change. */
    static PodcastEditor open() {
        PodcastEditor x = busy();
        x.begin();
        x.set(3, 30);
        return x;
    }
}
