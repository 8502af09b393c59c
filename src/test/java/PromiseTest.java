/** The promises of the document, one by one: ordinary numbers, edges and wrong numbers. */
public final class PromiseTest {
    private static final int NONE = -1;
    private static final int BAD = -2;
    private static final int FULL = -3;
    private static final int OVERLAP = -4;
    private static final int REFUSED = -5;
    private static final int NOTHING = -6;
    private static final int MIN = Integer.MIN_VALUE;
    private static final int MAX = Integer.MAX_VALUE;

    private static int promise;
    private static int checked;
    private static int wrong;

    public static void main(String[] args) {
        newObject();
        addSource();
        source();
        sourceValue();
        set();
        setTrack();
        track();
        addClip();
        clip();
        clipFades();
        setClip();
        moveClip();
        trim();
        divide();
        remove();
        room();
        copyClip();
        clipAt();
        explain();
        cut();
        cutChapters();
        insert();
        chapter();
        dropChapter();
        ofChapter();
        chapterAt();
        value();
        mix();
        peak();
        level();
        loudness();
        masterFor();
        normalize();
        covered();
        loudnessAgain();
        silence();
        tighten();
        ifCut();
        event();
        append();
        execute();
        faultPositions();
        refused();
        write();
        written();
        begin();
        end();
        undo();
        redo();
        save();
        restore();
        count();
        System.out.println(checked + " answers looked at, " + wrong + " wrong");
        if (wrong != 0) {
            System.exit(1);
        }
    }

    private static void due(String what, int got, int want) {
        checked++;
        if (got != want) {
            wrong++;
            System.out.println("promise " + promise + ": " + what + " answered " + got + ", due is " + want);
        }
    }

    /** The clip's numbers 0 to 7 in a row. */
    private static void dueClip(PodcastEditor x, int clip, int... numbers) {
        for (int what = 0; what < numbers.length; what++) {
            due("clip(" + clip + ", " + what + ")", x.clip(clip, what), numbers[what]);
        }
    }

    /** The frames and titles of all chapters, in turn. */
    private static void dueChapters(PodcastEditor x, int... numbers) {
        due("chapters", x.count(2), numbers.length / 2);
        for (int i = 0; i < numbers.length; i++) {
            due("ofChapter(" + i / 2 + ", " + i % 2 + ")", x.ofChapter(i / 2, i % 2), numbers[i]);
        }
    }

    private static void type(PodcastEditor x, String text) {
        for (int i = 0; i < text.length(); i++) {
            x.append(text.charAt(i));
        }
    }

    private static int run(PodcastEditor x, String text) {
        type(x, text);
        return x.execute();
    }

    /** An editor with one tone of 200 frames with this value. */
    private static PodcastEditor withTone(int a) {
        PodcastEditor x = new PodcastEditor();
        x.addSource(0, 200, a, 0);
        return x;
    }

    /** An editor whose ramp's values are the numbers of their frames. */
    private static PodcastEditor withRamp() {
        PodcastEditor x = new PodcastEditor();
        x.addSource(1, 200, 0, 200);
        return x;
    }

    /** An editor with 24 clips of one frame each, two frames apart, on track 0. */
    private static PodcastEditor crowded() {
        PodcastEditor x = withTone(100);
        for (int i = 0; i < 24; i++) {
            x.addClip(0, 3 * i, 0, 0, 1);
        }
        return x;
    }

    private static void newObject() {
        promise = 1;
        PodcastEditor x = new PodcastEditor();
        int[] counts = {0, 0, 0, 0, 0, 0, 0, 0, 100, 10, 10, 25, 0};
        for (int what = 0; what < counts.length; what++) {
            due("count(" + what + ")", x.count(what), counts[what]);
        }
        int[] numbers = {100, 0, 0, NOTHING, 100, 50, 5, 1, 0, 0, 0, 0};
        for (int track = 0; track < 4; track++) {
            for (int what = 0; what < numbers.length; what++) {
                due("track(" + track + ", " + what + ")", x.track(track, what), numbers[what]);
            }
        }
        due("source(0, 0)", x.source(0, 0), NONE);
        due("clip(0, 0)", x.clip(0, 0), NONE);
        due("ofChapter(0, 0)", x.ofChapter(0, 0), NONE);
        due("written(0)", x.written(0), NONE);
        due("refused(0)", x.refused(0), NOTHING);
        due("end()", x.end(), REFUSED);
        due("NONE", PodcastEditor.NONE, NONE);
        due("BAD", PodcastEditor.BAD, BAD);
        due("FULL", PodcastEditor.FULL, FULL);
        due("OVERLAP", PodcastEditor.OVERLAP, OVERLAP);
        due("REFUSED", PodcastEditor.REFUSED, REFUSED);
        due("NOTHING", PodcastEditor.NOTHING, NOTHING);
    }

    private static void addSource() {
        promise = 2;
        PodcastEditor x = new PodcastEditor();
        int[][] bad = {{-1, 1, 0, 0}, {4, 1, 0, 0}, {MIN, 1, 0, 0}, {MAX, 1, 0, 0}, {0, 0, 0, 0}, {0, 201, 0, 0},
            {0, 1, -1, 0}, {0, 1, 1000, 0}, {0, 1, 0, 1}, {0, 1, 0, -1}, {1, 1, 0, -1}, {1, 1, 0, 1000},
            {2, 1, 0, 0}, {2, 1, 0, 100}, {3, 1, 0, -1}, {3, 1, 0, 1000}, {0, MIN, 0, 0}, {1, 1, MAX, 0}};
        for (int[] b : bad) {
            due("addSource wrong", x.addSource(b[0], b[1], b[2], b[3]), BAD);
        }
        due("no source yet", x.count(0), 0);
        due("tone", x.addSource(0, 1, 999, 0), 0);
        due("ramp", x.addSource(1, 200, 0, 999), 1);
        due("pulse", x.addSource(2, 200, 999, 1), 2);
        due("pulse 99", x.addSource(2, 200, 0, 99), 3);
        due("noise", x.addSource(3, 200, 999, 999), 4);
        due("noise 0", x.addSource(3, 1, 0, 0), 5);
        due("seventh", x.addSource(0, 1, 0, 0), FULL);
        due("seventh, wrong", x.addSource(0, 0, 0, 0), BAD);
        due("sources", x.count(0), 6);
        due("steps", x.count(4), 6);
        PodcastEditor y = new PodcastEditor();
        due("ramp to 0", y.addSource(1, 1, 0, 0), 0);
        due("tone 0", y.addSource(0, 200, 0, 0), 1);
        due("pulse 1", y.addSource(2, 1, 0, 1), 2);
    }

    private static void source() {
        promise = 3;
        PodcastEditor x = new PodcastEditor();
        x.addSource(1, 10, 7, 500);
        x.addSource(2, 9, 44, 3);
        int[] ramp = {1, 10, 7, 500, 0, 450};
        int[] pulse = {2, 9, 44, 3, 0, 44};
        for (int what = 0; what < 6; what++) {
            due("source(0, " + what + ")", x.source(0, what), ramp[what]);
            due("source(1, " + what + ")", x.source(1, what), pulse[what]);
        }
        x.addClip(0, 0, 1, 0, 3);
        x.addClip(1, 0, 1, 2, 3);
        x.addClip(2, 0, 0, 2, 3);
        due("used by two", x.source(1, 4), 2);
        due("used by one", x.source(0, 4), 1);
        x.remove(0);
        due("used by one then", x.source(1, 4), 1);
        due("no source", x.source(2, 0), NONE);
        due("no source, no what", x.source(-1, -1), NONE);
        due("what -1", x.source(0, -1), BAD);
        due("what 6", x.source(0, 6), BAD);
        x.addSource(1, 10, 500, 7);
        due("falling ramp", x.source(2, 5), 500);
        x.addSource(3, 1, 0, 5);
        due("noise of 0", x.source(3, 5), 0);
    }

    private static void sourceValue() {
        promise = 4;
        PodcastEditor x = new PodcastEditor();
        x.addSource(0, 3, 12, 0);
        x.addSource(1, 4, 10, 3);
        x.addSource(2, 9, 50, 2);
        x.addSource(3, 3, 999, 0);
        x.addSource(1, 7, 0, 999);
        int[][] values = {{12, 12, 12}, {10, 9, 7, 5}, {50, 50, 0, 0, 50, 50, 0, 0, 50},
            {0, noise(2, 0) % 1000, noise(3, 0) % 1000}, {0, 142, 285, 428, 570, 713, 856}};
        for (int s = 0; s < values.length; s++) {
            for (int i = 0; i < values[s].length; i++) {
                due("sourceValue(" + s + ", " + i + ")", x.sourceValue(s, i), values[s][i]);
            }
            due("behind the last", x.sourceValue(s, values[s].length), NONE);
            due("before the first", x.sourceValue(s, -1), NONE);
        }
        due("source 5", x.sourceValue(5, 0), NONE);
        due("source -1", x.sourceValue(-1, 0), NONE);
        due("frame MAX", x.sourceValue(0, MAX), NONE);
        x.undo();
        x.addSource(0, 2, 77, 0);
        due("another source of this number", x.sourceValue(4, 1), 77);
        due("its length", x.sourceValue(4, 2), NONE);
    }

    /** The upper half of the z that belongs to the frame with this number, counted from 1. */
    private static int noise(int times, int b) {
        int z = b;
        for (int i = 0; i < times; i++) {
            z = z * 1103515245 + 12345;
        }
        return z >>> 16;
    }

    private static void set() {
        promise = 5;
        PodcastEditor x = new PodcastEditor();
        int[][] ranges = {{0, 400, 100}, {4, 50, 10}, {0, 999, 10}, {0, 100, 25}, {0, 2, 0}};
        for (int what = 0; what < 5; what++) {
            int[] range = ranges[what];
            due("below", x.set(what, range[0] - 1), BAD);
            due("above", x.set(what, range[1] + 1), BAD);
            due("the first", x.set(what, range[0]), range[2]);
            due("the last", x.set(what, range[1]), range[0]);
            due("the same", x.set(what, range[1]), range[1]);
            due("count", x.count(8 + what), range[1]);
            due("MIN", x.set(what, MIN), BAD);
            due("MAX", x.set(what, MAX), BAD);
        }
        due("what 5", x.set(5, 10), BAD);
        due("what -1", x.set(-1, 10), BAD);
        due("steps", x.count(4), 10);
    }

    private static void setTrack() {
        promise = 6;
        PodcastEditor x = new PodcastEditor();
        int[][] ranges = {{0, 200, 100}, {0, 1, 0}, {0, 1, 0}, {-1, 3, -1}, {0, 999, 100}, {0, 100, 50}, {0, 20, 5}};
        for (int what = 0; what < 7; what++) {
            if (what == 3) {
                continue;
            }
            int[] range = ranges[what];
            due("below", x.setTrack(1, what, range[0] - 1), BAD);
            due("above", x.setTrack(1, what, range[1] + 1), BAD);
            due("the first", x.setTrack(1, what, range[0]), range[2]);
            due("the last", x.setTrack(1, what, range[1]), range[0]);
            due("now", x.track(1, what), range[1]);
            due("another track", x.track(2, what), range[2]);
        }
        due("ducker -2", x.setTrack(1, 3, -2), BAD);
        due("ducker 4", x.setTrack(1, 3, 4), BAD);
        due("itself", x.setTrack(1, 3, 1), BAD);
        int steps = x.count(4);
        x.save();
        x.restore();
        due("none to none", x.setTrack(1, 3, -1), NOTHING);
        due("which is a change", x.count(4), 1);
        due("none to 0", x.setTrack(1, 3, 0), NOTHING);
        due("0 to 3", x.setTrack(1, 3, 3), 0);
        due("3 to none", x.setTrack(1, 3, -1), 3);
        due("0 ducks 3", x.setTrack(3, 3, 0), NOTHING);
        due("and 3 ducks 0", x.setTrack(0, 3, 3), NOTHING);
        due("track 4", x.setTrack(4, 0, 0), NONE);
        due("track -1, no what", x.setTrack(-1, 9, 0), NONE);
        due("what 7", x.setTrack(0, 7, 0), BAD);
        due("what -1", x.setTrack(0, -1, 0), BAD);
        due("ten steps before", steps, 10);
    }

    private static void track() {
        promise = 7;
        PodcastEditor x = withTone(400);
        x.addClip(0, 10, 0, 0, 20);
        x.addClip(0, 50, 0, 0, 5);
        x.addClip(1, 0, 0, 0, 100);
        x.setTrack(1, 3, 0);
        x.setTrack(1, 4, 400);
        x.setTrack(1, 5, 25);
        x.setTrack(1, 6, 3);
        due("clips", x.track(0, 8), 2);
        due("frames", x.track(0, 9), 25);
        due("ducked frames", x.track(1, 10), 31);
        due("greatest wet", x.track(1, 11), 400);
        due("no ducker, never", x.track(0, 10), 0);
        x.setTrack(1, 4, 401);
        due("above the ducker", x.track(1, 10), 0);
        x.setTrack(1, 4, 0);
        due("threshold 0", x.track(1, 10), 100);
        due("greatest wet, ducked", x.track(1, 11), 300);
        x.setTrack(0, 1, 1);
        due("a muted ducker counts", x.track(1, 10), 100);
        due("audible but for the muted", x.track(0, 7), 0);
        due("audible", x.track(1, 7), 1);
        x.setTrack(0, 2, 1);
        due("muted and solo", x.track(0, 7), 0);
        due("not solo, another is", x.track(1, 7), 0);
        x.setTrack(0, 1, 0);
        due("solo", x.track(0, 7), 1);
        x.setTrack(0, 0, 200);
        due("the dry one is above 999", withLoud().track(0, 11), 1998);
        due("track -1", x.track(-1, 0), NONE);
        due("track 4, no what", x.track(4, 99), NONE);
        due("what 12", x.track(0, 12), BAD);
        due("what -1", x.track(0, -1), BAD);
        due("ducker", x.track(1, 3), 0);
        due("no ducker", x.track(0, 3), NOTHING);
        PodcastEditor y = withTone(400);
        y.addClip(0, 590, 0, 0, 10);
        y.addClip(1, 0, 0, 0, 10);
        y.setTrack(1, 3, 0);
        due("hold up to the end", y.track(1, 10), 10);
        y.remove(0);
        due("nothing behind the end of all", y.track(1, 10), 0);
    }

    private static PodcastEditor withLoud() {
        PodcastEditor x = withTone(999);
        x.addClip(0, 0, 0, 0, 10);
        x.setClip(0, 0, 200);
        x.setTrack(0, 0, 200);
        return x;
    }

    private static void addClip() {
        promise = 8;
        PodcastEditor x = withRamp();
        due("no track", x.addClip(4, 0, 0, 0, 1), NONE);
        due("track -1", x.addClip(-1, 0, 0, 0, 1), NONE);
        due("no source", x.addClip(0, 0, 1, 0, 1), NONE);
        due("source -1, bad", x.addClip(0, -1, -1, 0, 1), NONE);
        int[][] bad = {{-1, 0, 1}, {600, 0, 1}, {MAX, 0, 1}, {MIN, 0, 1}, {0, -1, 1}, {0, 200, 1}, {0, MAX, 1},
            {0, MIN, 1}, {0, 0, 0}, {0, 0, -1}, {0, 0, 201}, {0, 1, 200}, {0, 0, MAX}, {0, 0, MIN}, {599, 0, 2},
            {0, MAX, MAX}, {401, 0, 200}};
        for (int[] b : bad) {
            due("wrong", x.addClip(0, b[0], 0, b[1], b[2]), BAD);
        }
        due("no clip yet", x.count(1), 0);
        due("up to 600", x.addClip(2, 400, 0, 0, 200), 0);
        due("before it", x.addClip(2, 399, 0, 199, 1), 0);
        due("a track before", x.addClip(0, 500, 0, 3, 7), 0);
        due("a track behind", x.addClip(3, 0, 0, 0, 1), 3);
        dueClip(x, 0, 0, 500, 0, 3, 7, 100, 0, 0);
        dueClip(x, 1, 2, 399, 0, 199, 1, 100, 0, 0);
        x.setClip(0, 0, 5);
        x.setClip(0, 1, 3);
        x.setClip(0, 2, 4);
        x.remove(0);
        x.addClip(0, 500, 0, 3, 7);
        dueClip(x, 0, 0, 500, 0, 3, 7, 100, 0, 0);
        x.setClip(0, 0, 5);
        x.setClip(0, 1, 3);
        x.setClip(0, 2, 4);
        x.addClip(0, 490, 0, 4, 7);
        dueClip(x, 0, 0, 490, 0, 4, 7, 100, 0, 0);
        x.remove(1);
        x.moveClip(0, 0, 500);
        due("over the whole", x.addClip(2, 300, 0, 0, 200), OVERLAP);
        due("one frame", x.addClip(2, 398, 0, 0, 2), OVERLAP);
        due("just before", x.addClip(2, 397, 0, 0, 2), 1);
        due("inside", x.addClip(2, 450, 0, 0, 2), OVERLAP);
        due("bad before overlap", x.addClip(2, 450, 0, 0, 0), BAD);
        PodcastEditor y = crowded();
        due("24 clips", y.count(1), 24);
        due("25th", y.addClip(1, 0, 0, 0, 1), FULL);
        due("25th over another one", y.addClip(0, 0, 0, 0, 1), FULL);
        due("25th, bad", y.addClip(0, 0, 0, 0, 0), BAD);
    }

    private static void clip() {
        promise = 9;
        PodcastEditor x = withRamp();
        x.addClip(1, 30, 0, 20, 5);
        x.setClip(0, 0, 50);
        x.setClip(0, 1, 1);
        x.setClip(0, 2, 2);
        dueClip(x, 0, 1, 30, 0, 20, 5, 50, 1, 2, 11, 5 + 10 + 11 + 11 * 2 / 3 + 12 / 3);
        due("clip 1", x.clip(1, 0), NONE);
        due("clip -1, no what", x.clip(-1, 99), NONE);
        due("what 10", x.clip(0, 10), BAD);
        due("what -1", x.clip(0, -1), BAD);
    }

    private static void clipFades() {
        promise = 9;
        PodcastEditor x = withTone(900);
        x.addClip(0, 0, 0, 0, 6);
        x.setClip(0, 0, 200);
        x.setClip(0, 1, 3);
        x.setClip(0, 2, 3);
        int[][] faded = {{450, 900, 999, 999, 900, 450}, {112, 450, 999, 999, 450, 112}, {0, 999, 999, 999, 999, 0}};
        for (int shape = 0; shape < 3; shape++) {
            x.set(4, shape);
            int sum = 0;
            for (int k = 0; k < 6; k++) {
                due("shape " + shape + ", frame " + k, x.value(0, k, 0), faded[shape][k]);
                sum += faded[shape][k];
            }
            due("sum", x.clip(0, 9), sum);
            due("greatest", x.clip(0, 8), 999);
        }
        x.setClip(0, 1, 0);
        due("no fade in", x.value(0, 0, 0), 999);
        x.setClip(0, 2, 6);
        x.set(4, 0);
        due("out from the first frame on", x.value(0, 0, 0), 999);
        x.setClip(0, 0, 100);
        due("6 of 7", x.value(0, 0, 0), 771);
        due("1 of 7", x.value(0, 5, 0), 128);
        x.setClip(0, 0, 33);
        due("297 by 1 of 7", x.value(0, 5, 0), 42);
        x.setClip(0, 0, 100);
        x.set(4, 2);
        due("3 of 7", x.value(0, 3, 0), 0);
        due("4 of 7", x.value(0, 2, 0), 900);
        x.setClip(0, 2, 5);
        due("3 of 6", x.value(0, 3, 0), 900);
        due("2 of 6", x.value(0, 4, 0), 0);
        PodcastEditor y = withRamp();
        y.addClip(0, 0, 0, 0, 3);
        y.addClip(0, 3, 0, 100, 3);
        due("greatest of a silent one", y.clip(0, 8), 2);
        y.setClip(0, 0, 0);
        due("gain 0", y.clip(0, 8), 0);
        y.setClip(1, 2, 3);
        y.set(4, 0);
        due("greatest at the first frame", y.clip(1, 8), 75);
    }

    private static void setClip() {
        promise = 10;
        PodcastEditor x = withTone(100);
        x.addClip(0, 0, 0, 0, 10);
        due("gain 0", x.setClip(0, 0, 0), 100);
        due("gain 200", x.setClip(0, 0, 200), 0);
        due("gain 201", x.setClip(0, 0, 201), BAD);
        due("gain -1", x.setClip(0, 0, -1), BAD);
        due("in 11", x.setClip(0, 1, 11), BAD);
        due("in 10", x.setClip(0, 1, 10), 0);
        due("out 1", x.setClip(0, 2, 1), BAD);
        due("in 4", x.setClip(0, 1, 4), 10);
        due("out 7", x.setClip(0, 2, 7), BAD);
        due("out 6", x.setClip(0, 2, 6), 0);
        due("in 5", x.setClip(0, 1, 5), BAD);
        due("in -1", x.setClip(0, 1, -1), BAD);
        due("out -1", x.setClip(0, 2, -1), BAD);
        due("in MAX", x.setClip(0, 1, MAX), BAD);
        due("out MIN", x.setClip(0, 2, MIN), BAD);
        due("out 0", x.setClip(0, 2, 0), 6);
        due("what 3", x.setClip(0, 3, 0), BAD);
        due("what -1", x.setClip(0, -1, 0), BAD);
        due("clip 1", x.setClip(1, 0, 0), NONE);
        due("clip -1, no what", x.setClip(-1, 7, 0), NONE);
        dueClip(x, 0, 0, 0, 0, 0, 10, 200, 4, 0);
    }

    private static void moveClip() {
        promise = 11;
        PodcastEditor x = withRamp();
        x.addClip(0, 0, 0, 1, 10);
        x.addClip(0, 20, 0, 2, 10);
        x.addClip(1, 0, 0, 3, 10);
        x.setClip(0, 1, 4);
        due("on its own frames", x.moveClip(0, 0, 5), 0);
        due("over the next one", x.moveClip(0, 0, 11), OVERLAP);
        due("up to the next one", x.moveClip(0, 0, 10), 0);
        due("behind the next one", x.moveClip(0, 0, 30), 1);
        dueClip(x, 1, 0, 30, 0, 1, 10, 100, 4, 0);
        dueClip(x, 0, 0, 20, 0, 2, 10, 100, 0, 0);
        due("to the last track", x.moveClip(0, 3, 590), 2);
        dueClip(x, 2, 3, 590, 0, 2, 10);
        due("to the first place", x.moveClip(2, 0, 0), 0);
        due("where it stands", x.moveClip(0, 0, 0), 0);
        due("behind 600", x.moveClip(0, 0, 591), BAD);
        due("before 0", x.moveClip(0, 0, -1), BAD);
        due("MAX", x.moveClip(0, 0, MAX), BAD);
        due("MIN", x.moveClip(0, 0, MIN), BAD);
        due("bad before overlap", x.moveClip(0, 1, -1), BAD);
        due("track 4", x.moveClip(0, 4, -1), NONE);
        due("track -1", x.moveClip(0, -1, 0), NONE);
        due("clip 3", x.moveClip(3, 0, 0), NONE);
        due("clip -1", x.moveClip(-1, 0, 0), NONE);
        PodcastEditor y = crowded();
        due("one of 24", y.moveClip(23, 0, 1), 1);
        due("still 24", y.count(1), 24);
        due("the others stay", y.clip(23, 1), 66);
        due("one of 24 forward", y.moveClip(0, 3, 0), 23);
        due("the first is now", y.clip(0, 1), 1);
    }

    private static void trim() {
        promise = 12;
        PodcastEditor x = withRamp();
        x.addClip(0, 20, 0, 30, 10);
        due("beginning later", x.trim(0, 0, 3), 7);
        dueClip(x, 0, 0, 23, 0, 33, 7);
        due("beginning earlier", x.trim(0, 0, -5), 12);
        dueClip(x, 0, 0, 18, 0, 28, 12);
        due("end earlier", x.trim(0, 1, 2), 10);
        dueClip(x, 0, 0, 18, 0, 28, 10);
        due("end later", x.trim(0, 1, -4), 14);
        dueClip(x, 0, 0, 18, 0, 28, 14);
        due("by 0", x.trim(0, 0, 0), 14);
        due("to nothing", x.trim(0, 0, 14), BAD);
        due("to nothing, end", x.trim(0, 1, 14), BAD);
        due("before 0", x.trim(0, 0, -19), BAD);
        due("to 0", x.trim(0, 0, -18), 32);
        due("source ends", x.trim(0, 1, -159), BAD);
        due("source's end", x.trim(0, 1, -158), 190);
        due("MIN", x.trim(0, 1, MIN), BAD);
        due("MIN, beginning", x.trim(0, 0, MIN), BAD);
        due("MAX", x.trim(0, 1, MAX), BAD);
        due("side 2", x.trim(0, 2, 0), BAD);
        due("side -1", x.trim(0, -1, 0), BAD);
        due("clip 1", x.trim(1, 0, 0), NONE);
        due("clip -1, no side", x.trim(-1, 5, 0), NONE);
        due("to one frame", x.trim(0, 1, 189), 1);
        x.addClip(0, 4, 0, 0, 4);
        due("up to the next one", x.trim(0, 1, -3), 4);
        due("over the next one", x.trim(0, 1, -4), OVERLAP);
        due("over the one before", x.trim(1, 0, -1), BAD);
        x.addClip(0, 8, 0, 100, 4);
        due("over the one before, source there", x.trim(2, 0, -1), OVERLAP);
        PodcastEditor y = withRamp();
        y.addClip(1, 590, 0, 0, 10);
        due("behind 600", y.trim(0, 1, -1), BAD);
        y.setClip(0, 1, 4);
        y.setClip(0, 2, 5);
        due("one shorter", y.trim(0, 0, 2), 8);
        dueClip(y, 0, 1, 592, 0, 2, 8, 100, 4, 4);
        due("out gone", y.trim(0, 1, 5), 3);
        dueClip(y, 0, 1, 592, 0, 2, 3, 100, 3, 0);
    }

    private static void divide() {
        promise = 13;
        PodcastEditor x = withRamp();
        x.addClip(0, 100, 0, 20, 10);
        x.setClip(0, 0, 70);
        x.setClip(0, 1, 3);
        x.setClip(0, 2, 6);
        due("at 0", x.divide(0, 0), BAD);
        due("at its length", x.divide(0, 10), BAD);
        due("at MIN", x.divide(0, MIN), BAD);
        due("at MAX", x.divide(0, MAX), BAD);
        due("clip 1", x.divide(1, 1), NONE);
        due("clip -1", x.divide(-1, 0), NONE);
        due("at 5", x.divide(0, 5), 1);
        dueClip(x, 0, 0, 100, 0, 20, 5, 70, 3, 0);
        dueClip(x, 1, 0, 105, 0, 25, 5, 70, 0, 5);
        due("the first part at 2", x.divide(0, 2), 1);
        dueClip(x, 0, 0, 100, 0, 20, 2, 70, 2, 0);
        dueClip(x, 1, 0, 102, 0, 22, 3, 70, 0, 0);
        due("the last frame", x.divide(2, 4), 3);
        dueClip(x, 3, 0, 109, 0, 29, 1, 70, 0, 1);
        PodcastEditor y = crowded();
        y.remove(23);
        y.addClip(3, 0, 0, 0, 2);
        due("24 clips", y.divide(23, 1), FULL);
        due("24 clips, bad", y.divide(23, 2), BAD);
        y.remove(0);
        due("23 clips", y.divide(22, 1), 23);
    }

    private static void remove() {
        promise = 14;
        PodcastEditor x = withRamp();
        x.addClip(0, 0, 0, 1, 2);
        x.addClip(0, 5, 0, 2, 3);
        x.addClip(1, 0, 0, 3, 4);
        due("clip 3", x.remove(3), NONE);
        due("clip -1", x.remove(-1), NONE);
        due("the middle one", x.remove(1), 2);
        dueClip(x, 0, 0, 0, 0, 1, 2);
        dueClip(x, 1, 1, 0, 0, 3, 4);
        due("the last one", x.remove(1), 1);
        due("the first one", x.remove(0), 0);
        due("none", x.remove(0), NONE);
    }

    private static void room() {
        promise = 15;
        PodcastEditor x = withTone(1);
        x.addClip(1, 10, 0, 0, 10);
        x.addClip(1, 25, 0, 0, 75);
        due("before all", x.room(1, 0, 10), 0);
        due("too long for that", x.room(1, 0, 11), 100);
        due("from 1", x.room(1, 1, 10), 100);
        due("from 1, 9", x.room(1, 1, 9), 1);
        due("between", x.room(1, 2, 5), 2);
        due("between, from 6", x.room(1, 6, 5), 20);
        due("from inside", x.room(1, 15, 5), 20);
        due("all the rest", x.room(1, 0, 500), 100);
        due("more than the rest", x.room(1, 0, 501), NOTHING);
        due("another track", x.room(0, 0, 600), 0);
        due("from 1 on another track", x.room(0, 1, 600), NOTHING);
        due("the last frame", x.room(0, 599, 1), 599);
        due("from -1", x.room(0, -1, 1), BAD);
        due("from 600", x.room(0, 600, 1), BAD);
        due("length 0", x.room(0, 0, 0), BAD);
        due("length 601", x.room(0, 0, 601), BAD);
        due("length MAX", x.room(0, 599, MAX), BAD);
        due("track 4", x.room(4, -1, 0), NONE);
        due("track -1", x.room(-1, 0, 1), NONE);
    }

    private static void copyClip() {
        promise = 16;
        PodcastEditor x = withRamp();
        x.addClip(1, 10, 0, 5, 10);
        x.setClip(0, 0, 150);
        x.setClip(0, 1, 2);
        x.setClip(0, 2, 3);
        due("onto itself", x.copyClip(0, 1, 10), OVERLAP);
        due("onto its last frame", x.copyClip(0, 1, 19), OVERLAP);
        due("behind it", x.copyClip(0, 1, 20), 1);
        dueClip(x, 1, 1, 20, 0, 5, 10, 150, 2, 3);
        dueClip(x, 0, 1, 10, 0, 5, 10, 150, 2, 3);
        due("before it", x.copyClip(0, 0, 590), 0);
        dueClip(x, 0, 0, 590, 0, 5, 10, 150, 2, 3);
        due("steps", x.count(4), 7);
        due("behind 600", x.copyClip(0, 0, 591), BAD);
        due("before 0", x.copyClip(0, 0, -1), BAD);
        due("MAX", x.copyClip(0, 0, MAX), BAD);
        due("track 4", x.copyClip(0, 4, 0), NONE);
        due("track -1, bad", x.copyClip(0, -1, -1), NONE);
        due("clip 3", x.copyClip(3, 0, 0), NONE);
        due("clip -1", x.copyClip(-1, 0, 0), NONE);
        PodcastEditor y = crowded();
        due("24 clips", y.copyClip(0, 1, 0), FULL);
        due("24 clips, over another one", y.copyClip(0, 0, 0), FULL);
        due("24 clips, bad", y.copyClip(0, 1, 600), BAD);
        y.remove(5);
        due("23 clips", y.copyClip(3, 0, 10), 4);
        due("between its neighbours", y.clip(5, 1), 12);
        PodcastEditor z = withRamp();
        for (int i = 0; i < 4; i++) {
            z.addClip(1, 100 + 10 * i, 0, 10 * i, 5);
        }
        due("the third one to the front", z.copyClip(2, 1, 0), 0);
        dueClip(z, 0, 1, 0, 0, 20, 5);
        due("the third one to the end", z.copyClip(2, 1, 200), 5);
        dueClip(z, 5, 1, 200, 0, 10, 5);
        due("the fourth one is moved to the front", z.moveClip(3, 0, 0), 0);
        dueClip(z, 0, 0, 0, 0, 20, 5);
        dueClip(z, 3, 1, 110, 0, 10, 5);
        dueClip(z, 4, 1, 130, 0, 30, 5);
    }

    private static void clipAt() {
        promise = 17;
        PodcastEditor x = withTone(1);
        x.addClip(0, 0, 0, 0, 2);
        x.addClip(2, 597, 0, 0, 3);
        due("first frame", x.clipAt(0, 0), 0);
        due("last frame", x.clipAt(0, 1), 0);
        due("behind it", x.clipAt(0, 2), NOTHING);
        due("before it", x.clipAt(2, 596), NOTHING);
        due("frame 599", x.clipAt(2, 599), 1);
        due("another track", x.clipAt(1, 0), NOTHING);
        due("frame 600", x.clipAt(2, 600), NONE);
        due("frame -1", x.clipAt(2, -1), NONE);
        due("track 4", x.clipAt(4, 0), NONE);
        due("track -1", x.clipAt(-1, 0), NONE);
    }

    private static void explain() {
        promise = 18;
        PodcastEditor x = withTone(300);
        x.addClip(0, 10, 0, 0, 20);
        x.addClip(1, 0, 0, 0, 12);
        x.setClip(0, 1, 3);
        x.setClip(0, 2, 4);
        x.setTrack(0, 3, 1);
        due("no clip", x.explain(0, 9), 1);
        due("ducked, in the fade in", x.explain(0, 12), 4);
        due("held", x.explain(0, 16), 4);
        due("held no more", x.explain(0, 17), 0);
        due("before the fade out", x.explain(0, 25), 0);
        due("the fade out", x.explain(0, 26), 5);
        due("the last frame", x.explain(0, 29), 5);
        due("behind", x.explain(0, 30), 1);
        x.setTrack(0, 3, -1);
        due("the fade in", x.explain(0, 10), 5);
        due("its last frame", x.explain(0, 12), 5);
        due("behind the fade in", x.explain(0, 13), 0);
        x.setTrack(1, 2, 1);
        due("another one is solo", x.explain(0, 13), 3);
        due("the solo one", x.explain(1, 0), 0);
        x.setTrack(0, 1, 1);
        due("muted", x.explain(0, 13), 2);
        due("muted, no clip", x.explain(0, 0), 1);
        due("track 4", x.explain(4, 0), NONE);
        due("track -1", x.explain(-1, 0), NONE);
        due("frame 600", x.explain(0, 600), NONE);
        due("frame -1", x.explain(0, -1), NONE);
    }

    private static void cut() {
        promise = 19;
        PodcastEditor x = withRamp();
        x.addClip(0, 0, 0, 0, 10);
        x.addClip(0, 10, 0, 50, 10);
        x.addClip(0, 30, 0, 100, 20);
        x.addClip(1, 5, 0, 0, 40);
        x.setClip(1, 1, 9);
        x.setClip(1, 2, 1);
        x.setClip(2, 1, 2);
        x.setClip(2, 2, 18);
        x.setClip(3, 0, 60);
        x.setClip(3, 1, 10);
        x.setClip(3, 2, 30);
        due("from -1", x.cut(-1, 5), BAD);
        due("nothing", x.cut(5, 5), BAD);
        due("backward", x.cut(6, 5), BAD);
        due("to 601", x.cut(0, 601), BAD);
        due("MIN to MAX", x.cut(MIN, MAX), BAD);
        due("15 to 35", x.cut(15, 35), 5 + 5 + 20);
        due("clips", x.count(1), 5);
        dueClip(x, 0, 0, 0, 0, 0, 10, 100, 0, 0);
        dueClip(x, 1, 0, 10, 0, 50, 5, 100, 5, 0);
        dueClip(x, 2, 0, 15, 0, 105, 15, 100, 0, 15);
        dueClip(x, 3, 1, 5, 0, 0, 10, 60, 10, 0);
        dueClip(x, 4, 1, 15, 0, 30, 10, 60, 0, 10);
        due("a whole clip and more", x.cut(8, 16), 2 + 5 + 1 + 7 + 1);
        dueClip(x, 0, 0, 0, 0, 0, 8);
        dueClip(x, 1, 0, 8, 0, 106, 14, 100, 0, 14);
        dueClip(x, 2, 1, 5, 0, 0, 3, 60, 3, 0);
        dueClip(x, 3, 1, 8, 0, 31, 9, 60, 0, 9);
        due("where nothing is", x.cut(100, 600), 0);
        due("which is a change", x.undo(), 9);
        due("end of all", x.peak(0), 22);
        due("at the borders", x.cut(8, 22), 14 + 9);
        due("clips then", x.count(1), 2);
        due("all", x.cut(0, 600), 11);
        due("no clips", x.count(1), 0);
        cutCrowd();
    }

    private static void cutCrowd() {
        PodcastEditor y = withTone(100);
        for (int track = 0; track < 4; track++) {
            y.addClip(track, 0, 0, 0, 100);
        }
        for (int i = 0; i < 18; i++) {
            y.divide(0, 1 + i % 2);
            y.moveClip(0, 0, 200 + 2 * i);
        }
        due("22 clips", y.count(1), 22);
        int last = y.clip(0, 1);
        due("four more", y.cut(last + 1, last + 2), FULL);
        due("unchanged", y.count(1), 22);
        due("one goes for each", y.cut(90, 232), 10 * 4 + 16 + 8);
        due("no clip is divided", y.count(1), 22 - 16);
        PodcastEditor z = crowded();
        z.moveClip(0, 1, 0);
        z.trim(23, 1, -9);
        due("24 would be 25", z.cut(1, 3), FULL);
        due("one comes, one goes", z.cut(3, 7), 4 + 2);
        due("still 24", z.count(1), 23);
        PodcastEditor v = withTone(100);
        for (int track = 0; track < 4; track++) {
            for (int i = 0; i < 6; i++) {
                v.addClip(track, 10 * i, 0, 0, 10);
            }
        }
        due("divided at both ends on all tracks", v.cut(5, 15), 40);
        due("24 as before", v.count(1), 24);
        dueClip(v, 23, 3, 40, 0, 0, 10);
        dueClip(v, 19, 3, 5, 0, 5, 5);
        dueClip(v, 18, 3, 0, 0, 0, 5);
        PodcastEditor w = crowded();
        w.moveClip(23, 1, 0);
        w.trim(23, 1, -19);
        due("24 stay 24", w.cut(3, 4), 2);
        due("24", w.count(1), 24);
    }

    private static void cutChapters() {
        promise = 19;
        PodcastEditor x = new PodcastEditor();
        x.chapter(9, 1);
        x.chapter(10, 2);
        x.chapter(12, 3);
        x.chapter(15, 4);
        x.chapter(16, 5);
        x.cut(10, 15);
        dueChapters(x, 9, 1, 10, 2, 11, 5);
        x.undo();
        x.cut(11, 15);
        dueChapters(x, 9, 1, 10, 2, 11, 3, 12, 5);
        x.undo();
        x.cut(13, 15);
        dueChapters(x, 9, 1, 10, 2, 12, 3, 13, 4, 14, 5);
        x.undo();
        x.cut(16, 17);
        dueChapters(x, 9, 1, 10, 2, 12, 3, 15, 4, 16, 5);
        x.undo();
        x.cut(0, 600);
        dueChapters(x, 0, 1);
        x.undo();
        x.cut(5, 9);
        dueChapters(x, 5, 1, 6, 2, 8, 3, 11, 4, 12, 5);
    }

    private static void insert() {
        promise = 20;
        PodcastEditor x = withRamp();
        x.addClip(0, 0, 0, 0, 20);
        x.setClip(0, 1, 12);
        x.setClip(0, 2, 8);
        x.addClip(0, 20, 0, 7, 5);
        x.addClip(1, 2, 0, 50, 8);
        x.chapter(9, 1);
        x.chapter(10, 2);
        due("at -1", x.insert(-1, 1), BAD);
        due("at 600", x.insert(600, 1), BAD);
        due("length 0", x.insert(0, 0), BAD);
        due("length 601", x.insert(0, 601), BAD);
        due("length MAX", x.insert(0, MAX), BAD);
        due("at 10", x.insert(10, 30), 4);
        dueClip(x, 0, 0, 0, 0, 0, 10, 100, 10, 0);
        dueClip(x, 1, 0, 40, 0, 10, 10, 100, 0, 8);
        dueClip(x, 2, 0, 50, 0, 7, 5, 100, 0, 0);
        dueClip(x, 3, 1, 2, 0, 50, 8, 100, 0, 0);
        dueChapters(x, 9, 1, 40, 2);
        due("too far", x.insert(54, 546), BAD);
        due("chapter too far", x.insert(40, 560), BAD);
        due("just not too far", x.insert(54, 545), 5);
        dueClip(x, 3, 0, 599, 0, 11, 1);
        due("behind all", x.insert(599, 600), BAD);
        x.remove(3);
        due("where nothing is", x.insert(599, 600), 4);
        due("behind the last clip", x.insert(54, 600), 4);
        due("chapter on 599", x.insert(40, 545), 4);
        dueChapters(x, 9, 1, 585, 2);
        x.remove(2);
        x.remove(1);
        due("chapter up to 599", x.insert(585, 14), 2);
        due("chapter behind 599", x.insert(599, 1), BAD);
        PodcastEditor y = crowded();
        y.trim(23, 1, -1);
        due("one more of 24", y.insert(70, 1), FULL);
        due("bad before full", y.insert(70, 600), BAD);
        due("between clips", y.insert(69, 2), 24);
        due("moved", y.clip(23, 1), 71);
        y.remove(0);
        due("one more of 23", y.insert(72, 1), 24);
        PodcastEditor z = withTone(100);
        z.addClip(0, 100, 0, 0, 10);
        due("the first clip", z.insert(100, 10), 1);
        dueClip(z, 0, 0, 110);
        z.chapter(300, 1);
        due("the first chapter behind 599", z.insert(200, 300), BAD);
        PodcastEditor w = crowded();
        w.trim(0, 1, -1);
        due("the first of 24 is across", w.insert(1, 1), FULL);
    }

    private static void chapter() {
        promise = 21;
        PodcastEditor x = new PodcastEditor();
        due("frame -1", x.chapter(-1, 0), BAD);
        due("frame 600", x.chapter(600, 0), BAD);
        due("title -1", x.chapter(0, -1), BAD);
        due("title 100", x.chapter(0, 100), BAD);
        due("first", x.chapter(300, 99), 0);
        due("before it", x.chapter(0, 1), 0);
        due("behind it", x.chapter(599, 2), 2);
        due("between", x.chapter(299, 3), 1);
        due("again", x.chapter(300, 4), 2);
        dueChapters(x, 0, 1, 299, 3, 300, 4, 599, 2);
        for (int i = 0; i < 8; i++) {
            due("more", x.chapter(400 + i, i), 3 + i);
        }
        due("a thirteenth", x.chapter(1, 0), FULL);
        due("a thirteenth, bad", x.chapter(600, 0), BAD);
        due("one of twelve again", x.chapter(0, 50), 0);
        due("its title", x.ofChapter(0, 1), 50);
        due("twelve", x.count(2), 12);
    }

    private static void dropChapter() {
        promise = 22;
        PodcastEditor x = new PodcastEditor();
        due("none", x.dropChapter(0), NONE);
        x.chapter(1, 1);
        x.chapter(2, 2);
        x.chapter(3, 3);
        due("chapter 3", x.dropChapter(3), NONE);
        due("chapter -1", x.dropChapter(-1), NONE);
        due("the middle one", x.dropChapter(1), 2);
        dueChapters(x, 1, 1, 3, 3);
        due("the first one", x.dropChapter(0), 1);
        dueChapters(x, 3, 3);
        due("the last one", x.dropChapter(0), 0);
        due("steps", x.count(4), 6);
    }

    private static void ofChapter() {
        promise = 23;
        PodcastEditor x = withRamp();
        x.addClip(0, 0, 0, 0, 100);
        x.chapter(10, 5);
        x.chapter(30, 6);
        x.chapter(90, 7);
        x.chapter(200, 8);
        int[][] numbers = {{10, 5, 20, 29}, {30, 6, 60, 89}, {90, 7, 110, 99}, {200, 8, 0, 0}};
        for (int chapter = 0; chapter < 4; chapter++) {
            for (int what = 0; what < 4; what++) {
                due("ofChapter", x.ofChapter(chapter, what), numbers[chapter][what]);
            }
        }
        x.dropChapter(3);
        due("up to the end of all", x.ofChapter(2, 2), 10);
        due("chapter 3", x.ofChapter(3, 0), NONE);
        due("chapter -1, no what", x.ofChapter(-1, 4), NONE);
        due("what 4", x.ofChapter(0, 4), BAD);
        due("what -1", x.ofChapter(0, -1), BAD);
    }

    private static void chapterAt() {
        promise = 24;
        PodcastEditor x = new PodcastEditor();
        due("no chapters", x.chapterAt(599), NOTHING);
        x.chapter(10, 0);
        x.chapter(599, 0);
        due("before", x.chapterAt(9), NOTHING);
        due("its frame", x.chapterAt(10), 0);
        due("up to the next", x.chapterAt(598), 0);
        due("the next", x.chapterAt(599), 1);
        due("frame 600", x.chapterAt(600), NONE);
        due("frame -1", x.chapterAt(-1), NONE);
        due("frame MAX", x.chapterAt(MAX), NONE);
    }

    private static void value() {
        promise = 25;
        PodcastEditor x = withRamp();
        x.addClip(0, 0, 0, 0, 200);
        x.addClip(1, 40, 0, 150, 10);
        x.setTrack(0, 0, 150);
        x.setTrack(0, 3, 1);
        x.setTrack(0, 4, 155);
        x.setTrack(0, 5, 30);
        x.setTrack(0, 6, 2);
        int[][] due = {{44, 44, 66, 66, 0}, {45, 45, 67, 46, 1}, {49, 49, 73, 51, 1}, {51, 51, 76, 53, 1}, {52, 52, 78, 78, 0}};
        for (int[] d : due) {
            for (int what = 0; what < 4; what++) {
                due("value(0, " + d[0] + ", " + what + ")", x.value(0, d[0], what), d[what + 1]);
            }
        }
        x.setTrack(1, 1, 1);
        due("a muted ducker", x.value(0, 45, 3), 1);
        x.setTrack(1, 0, 50);
        due("its volume counts", x.value(0, 45, 3), 0);
        x.setTrack(0, 6, 20);
        x.setTrack(0, 4, 75);
        due("hold 20", x.value(0, 69, 3), 1);
        due("hold 20, over", x.value(0, 70, 3), 0);
        x.setTrack(0, 6, 0);
        due("hold 0", x.value(0, 49, 3), 1);
        due("hold 0, over", x.value(0, 50, 3), 0);
        x.setTrack(0, 4, 0);
        due("threshold 0", x.value(0, 599, 3), 1);
        due("no clip", x.value(2, 0, 0) + x.value(2, 0, 1) + x.value(2, 0, 2) + x.value(2, 0, 3), 0);
        due("the clip's value by its own frame", x.value(1, 43, 0), 153);
        due("clip's value at most 999", withLoud().value(0, 0, 0), 999);
        due("dry above 999", withLoud().value(0, 0, 1), 1998);
        due("track 4", x.value(4, 0, 0), NONE);
        due("track -1, no what", x.value(-1, 0, 9), NONE);
        due("frame 600", x.value(0, 600, 0), NONE);
        due("frame -1", x.value(0, -1, 0), NONE);
        due("what 4", x.value(0, 0, 4), BAD);
        due("what -1", x.value(0, 0, -1), BAD);
    }

    private static void mix() {
        promise = 26;
        PodcastEditor x = withTone(333);
        x.addClip(0, 0, 0, 0, 20);
        x.addClip(1, 10, 0, 0, 20);
        x.addClip(3, 15, 0, 0, 1);
        due("one", x.mix(0), 333);
        due("two", x.mix(10), 666);
        due("three", x.mix(15), 999);
        due("none", x.mix(30), 0);
        x.set(0, 101);
        due("limited", x.mix(15), 999);
        due("times the master", x.mix(0), 336);
        x.set(0, 400);
        due("master 400", x.mix(29), 999);
        x.set(0, 0);
        due("master 0", x.mix(15), 0);
        x.set(0, 50);
        due("the sum is halved", x.mix(10), 333);
        x.setTrack(1, 1, 1);
        due("muted", x.mix(10), 166);
        x.setTrack(1, 2, 1);
        due("muted, but solo for the others", x.mix(10), 0);
        x.setTrack(1, 1, 0);
        due("solo", x.mix(10), 166);
        x.setTrack(3, 2, 1);
        due("two solo", x.mix(15), 333);
        due("frame 599", x.mix(599), 0);
        due("frame 600", x.mix(600), NONE);
        due("frame -1", x.mix(-1), NONE);
    }

    private static void peak() {
        promise = 27;
        PodcastEditor x = withTone(500);
        for (int what = 0; what < 5; what++) {
            due("silent " + what, x.peak(what), 0);
        }
        x.addClip(0, 20, 0, 0, 10);
        x.addClip(1, 25, 0, 0, 10);
        x.addClip(2, 28, 0, 0, 1);
        int[] numbers = {35, 999, 25, 5, 5 * 500 + 5 * 999 + 5 * 500};
        x.set(0, 100);
        numbers[3] = 5;
        for (int what = 0; what < 5; what++) {
            int got = x.peak(what);
            // 1000 at five frames, 1500 at one of them: all are over.
            due("peak(" + what + ")", got, numbers[what]);
        }
        x.set(0, 99);
        due("990 is greatest but at one frame", x.peak(2), 28);
        due("one is over", x.peak(3), 1);
        due("sum", x.peak(4), 10 * 495 + 4 * 990 + 999);
        x.set(0, 66);
        due("990 is not over", x.peak(3), 0);
        due("greatest", x.peak(1), 990);
        due("what 5", x.peak(5), BAD);
        due("what -1", x.peak(-1), BAD);
        x.addClip(3, 599, 0, 0, 1);
        due("end at 600", x.peak(0), 600);
        PodcastEditor y = withTone(333);
        for (int track = 0; track < 3; track++) {
            y.addClip(track, 0, 0, 0, 2);
        }
        due("999 is not over", y.peak(3), 0);
        due("greatest at 0", y.peak(2), 0);
        y.trim(2, 1, 1);
        due("greatest at 0 alone", y.peak(1), 999);
        due("sum with frame 0", y.peak(4), 999 + 666);
        y.set(0, 200);
        due("over at 0", y.peak(3), 2);
        y.trim(2, 0, 0);
        y.addSource(0, 5, 999, 0);
        y.addClip(3, 1, 1, 0, 1);
        y.set(0, 50);
        due("greatest at 1", y.peak(2), 1);
        due("greatest wet at 0", y.track(0, 11), 333);
        y.moveClip(0, 0, 599);
        due("greatest wet at 599", y.track(0, 11), 333);
        y.moveClip(0, 0, 598);
        y.trim(0, 1, 1);
        y.moveClip(0, 0, 0);
        due("greatest wet at 0 alone", y.track(0, 11), 333);
    }

    private static void level() {
        promise = 28;
        PodcastEditor x = withTone(100);
        due("no windows", x.level(0), NONE);
        x.addClip(0, 5, 0, 0, 16);
        due("half", x.level(0), 5000);
        due("whole", x.level(1), 10000);
        due("one of ten", x.level(2), 1000);
        due("behind", x.level(3), NONE);
        due("-1", x.level(-1), NONE);
        x.set(1, 7);
        due("2 of 7", x.level(0), 20000 / 7);
        due("7 of 7", x.level(2), 10000);
        due("behind 21", x.level(3), NONE);
        x.moveClip(0, 0, 584);
        due("4 of 7, up to 600", x.level(85), 50000 / 7);
        due("behind 602", x.level(86), NONE);
        x.set(1, 50);
        due("16 of 50", x.level(11), 3200);
        due("MAX", x.level(MAX), NONE);
        x.set(1, 4);
        due("window 4", x.level(146), 10000);
        due("the last of 150", x.level(149), 10000);
        due("behind 150", x.level(150), NONE);
        due("150 windows", x.loudness(0), 150);
        due("all but four are quiet", x.loudness(1), 146);
        due("loudness by both ways", x.loudnessAgain(), x.loudness(4));
    }

    private static void loudness() {
        promise = 29;
        PodcastEditor x = new PodcastEditor();
        x.addSource(0, 200, 10, 0);
        x.addSource(0, 200, 9, 0);
        x.addSource(0, 200, 100, 0);
        x.addSource(0, 200, 40, 0);
        x.addClip(0, 0, 0, 0, 10);
        x.addClip(0, 10, 1, 0, 10);
        x.addClip(0, 20, 2, 0, 20);
        x.addClip(0, 40, 3, 0, 10);
        // Levels: 100, 81, 10000, 10000, 1600; the mean of those that are not quiet is 5425.
        int[] numbers = {5, 1, 1, 5425, 7200};
        for (int what = 0; what < 5; what++) {
            due("loudness(" + what + ")", x.loudness(what), numbers[what]);
        }
        x.set(3, 30);
        due("1600 is low, too", x.loudness(2), 2);
        due("without it", x.loudness(4), 10000);
        x.set(3, 0);
        due("none is low", x.loudness(2), 0);
        due("the loudness is the mean", x.loudness(4), 5425);
        x.set(3, 100);
        due("two are low", x.loudness(2), 2);
        x.set(2, 9);
        due("gate 9", x.loudness(1), 0);
        x.set(2, 0);
        due("gate 0", x.loudness(1), 0);
        x.set(2, 101);
        due("gate 101", x.loudness(1), 5);
        due("all quiet: mean", x.loudness(3), 0);
        due("all quiet: loudness", x.loudness(4), 0);
        due("all quiet: low", x.loudness(2), 0);
        due("what 5", x.loudness(5), BAD);
        due("what -1", x.loudness(-1), BAD);
        PodcastEditor y = withTone(100);
        y.addClip(0, 0, 0, 0, 10);
        y.addClip(0, 10, 0, 0, 10);
        y.setClip(1, 0, 50);
        y.set(3, 40);
        due("100 * 2500 is equal to 6250 * 40", y.loudness(2), 0);
        y.set(3, 41);
        due("but less than 6250 * 41", y.loudness(2), 1);
    }

    private static void masterFor() {
        promise = 30;
        PodcastEditor x = withTone(100);
        due("without clips", x.masterFor(1), 400);
        x.addClip(0, 0, 0, 0, 20);
        due("50", x.masterFor(50), 50);
        due("51", x.masterFor(51), 51);
        due("quiet up to 9", x.masterFor(1), 9);
        due("400", x.masterFor(400), 400);
        due("999", x.masterFor(999), 400);
        due("399", x.masterFor(399), 399);
        due("nothing changes", x.count(8), 100);
        due("target 0", x.masterFor(0), BAD);
        due("target 1000", x.masterFor(1000), BAD);
        due("target MIN", x.masterFor(MIN), BAD);
        x.set(2, 0);
        due("1", x.masterFor(1), 1);
        due("no step", x.count(4), 3);
        PodcastEditor y = withTone(999);
        y.addClip(0, 0, 0, 0, 20);
        y.addClip(1, 0, 0, 0, 20);
        y.set(2, 0);
        due("none", y.masterFor(1), NOTHING);
        due("19 is the least loudness's root", y.masterFor(19), 1);
        due("999 at last", y.masterFor(999), 400);
        due("998", y.masterFor(998), 49);
        PodcastEditor z = withTone(100);
        z.addClip(0, 0, 0, 0, 10);
        z.addClip(0, 10, 0, 0, 10);
        z.setClip(1, 0, 10);
        z.set(3, 0);
        due("up to 75, and again from 100 on, where the soft window is no longer quiet", z.masterFor(75), 105);
        due("just not from 100 on", z.masterFor(71), 71);
        due("at 100 alone: 5050 is at most 72 * 72", z.masterFor(72), 101);
    }

    private static void normalize() {
        promise = 31;
        PodcastEditor x = withTone(100);
        x.addClip(0, 0, 0, 0, 20);
        due("target 0", x.normalize(0), BAD);
        due("target 1000", x.normalize(1000), BAD);
        due("steps", x.count(4), 2);
        due("70", x.normalize(70), 70);
        due("the master", x.count(8), 70);
        due("the mix", x.mix(0), 70);
        due("a step", x.count(4), 3);
        due("from another master", x.normalize(120), 120);
        x.undo();
        due("undone", x.mix(0), 70);
        due("the same again", x.normalize(70), 70);
        due("a step, too", x.count(4), 4);
        x.setTrack(0, 0, 200);
        x.setClip(0, 0, 200);
        x.set(2, 0);
        due("none", x.normalize(1), NOTHING);
        due("the master stays", x.count(8), 70);
        due("1", x.normalize(4), 1);
        due("the master is 1", x.count(8), 1);
    }

    private static void covered() {
        promise = 32;
        PodcastEditor x = withTone(1);
        due("none", x.covered(0), 0);
        x.addClip(0, 0, 0, 0, 200);
        x.addClip(0, 200, 0, 0, 200);
        x.addClip(0, 400, 0, 0, 200);
        x.addClip(1, 7, 0, 0, 3);
        due("all", x.covered(0), 600);
        due("3", x.covered(1), 3);
        x.cut(6, 8);
        due("2", x.covered(1), 2);
        due("598", x.covered(0), 598);
        due("track 4", x.covered(4), NONE);
        due("track -1", x.covered(-1), NONE);
    }

    private static void loudnessAgain() {
        promise = 33;
        PodcastEditor x = new PodcastEditor();
        due("no clips", x.loudnessAgain(), 0);
        x.addSource(3, 200, 300, 5);
        x.addSource(1, 180, 0, 400);
        x.addSource(2, 200, 80, 30);
        x.addClip(0, 0, 0, 0, 200);
        x.addClip(1, 150, 1, 0, 180);
        x.addClip(2, 397, 2, 0, 200);
        for (int window = 4; window <= 50; window++) {
            x.set(1, window);
            x.set(2, 3 * window);
            x.set(3, 100 - window);
            due("window " + window, x.loudnessAgain(), x.loudness(4));
        }
        x.set(2, 999);
        due("all quiet", x.loudnessAgain(), 0);
        PodcastEditor y = withTone(100);
        y.addClip(0, 0, 0, 0, 20);
        y.addClip(0, 30, 0, 0, 5);
        due("10000, 10000, 0, 5000", y.loudnessAgain(), 25000 / 3);
        y.set(3, 61);
        due("5000 is low", y.loudnessAgain(), 10000);
        y.set(1, 50);
        due("one window", y.loudnessAgain(), 5000);
        y.set(1, 4);
        y.set(2, 100);
        due("7 windows equal to the gate", y.loudnessAgain(), 10000);
        PodcastEditor z = withTone(100);
        z.addClip(0, 0, 0, 0, 10);
        z.addClip(0, 10, 0, 0, 10);
        z.setClip(1, 0, 50);
        z.set(3, 40);
        due("100 * 2500 is equal to 6250 * 40", z.loudnessAgain(), 6250);
        z.set(3, 41);
        due("but less than 6250 * 41", z.loudnessAgain(), 10000);
        z.set(3, 0);
        z.setClip(0, 0, 1);
        z.setClip(1, 0, 2);
        z.set(2, 0);
        due("1 and 4", z.loudnessAgain(), 2);
        due("1 and 4 by the first way", z.loudness(4), 2);
        due("their mean", z.loudness(3), 2);
    }

    private static void silence() {
        promise = 34;
        PodcastEditor x = withTone(100);
        due("no frames", x.silence(999, 1, -1, 9), 0);
        x.addClip(0, 5, 0, 0, 10);
        x.addClip(0, 18, 0, 0, 2);
        x.addClip(0, 30, 0, 0, 10);
        x.setClip(2, 0, 0);
        due("all three", x.silence(100, 1, -1, 0), 3);
        int[][] all = {{0, 5}, {15, 3}, {20, 20}};
        for (int i = 0; i < 3; i++) {
            due("first frame", x.silence(100, 1, i, 0), all[i][0]);
            due("length", x.silence(1, 3, i, 1), all[i][1]);
        }
        due("of 4", x.silence(100, 4, -1, 0), 2);
        due("the second of 4", x.silence(100, 4, 1, 0), 20);
        due("of 20", x.silence(100, 20, -1, 0), 1);
        due("of 21", x.silence(100, 21, -1, 0), 0);
        due("less than 101", x.silence(101, 1, -1, 0), 1);
        due("all frames", x.silence(101, 1, 0, 1), 40);
        due("silence 3", x.silence(100, 1, 3, 0), NONE);
        due("silence -2, no what", x.silence(100, 1, -2, 5), NONE);
        due("what 2", x.silence(100, 1, 0, 2), BAD);
        due("what -1", x.silence(100, 1, 0, -1), BAD);
        due("v 0", x.silence(0, 1, -1, 0), BAD);
        due("v 1000", x.silence(1000, 1, -1, 0), BAD);
        due("n 0", x.silence(1, 0, 9, 0), BAD);
        due("n 601", x.silence(1, 601, -1, 0), BAD);
        due("n 600", x.silence(1, 600, -1, 0), 0);
        PodcastEditor y = new PodcastEditor();
        y.addSource(2, 200, 9, 1);
        y.addClip(0, 0, 0, 0, 200);
        y.addClip(0, 200, 0, 0, 200);
        y.addClip(0, 400, 0, 0, 200);
        due("every second frame", y.silence(9, 1, -1, 0), 300);
        due("the last one", y.silence(9, 1, 299, 0), 599);
    }

    private static void tighten() {
        promise = 35;
        PodcastEditor x = withTone(100);
        x.addClip(0, 5, 0, 0, 10);
        x.addClip(0, 18, 0, 0, 2);
        x.addClip(0, 30, 0, 0, 10);
        x.setClip(2, 0, 0);
        x.addClip(1, 0, 0, 0, 100);
        x.setTrack(1, 1, 1);
        x.chapter(25, 1);
        due("v 0", x.tighten(0, 1), BAD);
        due("v 1000", x.tighten(1000, 1), BAD);
        due("n 0", x.tighten(1, 0), BAD);
        due("n 601", x.tighten(1, 601), BAD);
        due("steps", x.count(4), 8);
        due("each to 3", x.tighten(100, 3), 2 + 0 + 77);
        dueClip(x, 0, 0, 3, 0, 0, 10);
        dueClip(x, 1, 0, 16, 0, 0, 2);
        due("clips", x.count(1), 4);
        dueClip(x, 2, 1, 0, 0, 0, 3);
        dueClip(x, 3, 1, 3, 0, 5, 18);
        dueChapters(x, 21, 1);
        due("a step", x.count(4), 9);
        due("nothing more", x.tighten(100, 3), 0);
        due("a step, too", x.count(4), 10);
        x.undo();
        x.undo();
        due("all at once", x.count(1), 4);
        due("back", x.clip(0, 1), 5);
        due("to 600", x.tighten(100, 600), 0);
        tightenCrowd();
    }

    private static void tightenCrowd() {
        PodcastEditor y = withTone(100);
        for (int i = 0; i < 20; i++) {
            y.addClip(0, 5 * i, 0, 0, 2);
        }
        y.addClip(1, 0, 0, 0, 90);
        y.addClip(2, 0, 0, 0, 90);
        y.setTrack(1, 1, 1);
        y.setTrack(2, 1, 1);
        due("22 and 2 are 24, but not 26", y.tighten(50, 1), FULL);
        due("unchanged", y.count(1), 22);
        due("unchanged, the last", y.clip(19, 1), 95);
        due("no step for it", y.count(4), 10);
        y.remove(21);
        y.remove(20);
        due("now", y.tighten(50, 1), 19 * 2);
        due("close to each other", y.clip(19, 1), 57);
    }

    private static void ifCut() {
        promise = 36;
        PodcastEditor x = withTone(100);
        x.addClip(0, 0, 0, 0, 20);
        x.addClip(0, 20, 0, 0, 10);
        x.setClip(1, 0, 50);
        x.chapter(3, 1);
        x.chapter(8, 1);
        x.chapter(12, 1);
        due("end", x.ifCut(5, 15, 0), 20);
        due("loudness", x.ifCut(5, 15, 1), 6250);
        due("clips", x.ifCut(5, 15, 2), 3);
        due("chapters", x.ifCut(5, 15, 3), 2);
        due("end as it is", x.peak(0), 30);
        due("loudness as it is", x.loudness(4), 7500);
        due("clips as they are", x.count(1), 2);
        due("chapters as they are", x.count(2), 3);
        due("steps", x.count(4), 7);
        x.undo();
        due("redo is still there", x.ifCut(0, 1, 3), 2);
        due("redo", x.count(5), 1);
        due("what 4", x.ifCut(5, 15, 4), BAD);
        due("what -1", x.ifCut(5, 15, -1), BAD);
        due("from -1", x.ifCut(-1, 15, 0), BAD);
        due("to 601", x.ifCut(0, 601, 0), BAD);
        due("from is to", x.ifCut(5, 5, 0), BAD);
        PodcastEditor y = crowded();
        y.trim(23, 1, -2);
        due("25 clips", y.ifCut(70, 71, 2), FULL);
        due("25 clips, no what", y.ifCut(70, 71, 4), BAD);
        PodcastEditor z = withTone(100);
        z.addClip(0, 0, 0, 0, 10);
        z.addClip(0, 10, 0, 0, 10);
        z.setClip(0, 0, 50);
        due("loudness before", z.loudness(4), 6250);
        due("loudness after a cut", z.ifCut(0, 10, 1), 10000);
        due("loudness as it was", z.loudness(4), 6250);
        due("mix as it was", z.mix(0), 50);
        due("a cut of nothing", z.ifCut(20, 600, 2), 2);
        due("the end then", z.ifCut(20, 600, 0), 20);
    }

    private static void event() {
        promise = 37;
        PodcastEditor x = withTone(100);
        due("none", x.event(0, 0), NONE);
        x.addClip(2, 10, 0, 0, 10);
        x.addClip(1, 20, 0, 0, 10);
        x.addClip(0, 10, 0, 0, 10);
        x.addClip(2, 20, 0, 0, 10);
        x.addClip(3, 590, 0, 0, 10);
        x.chapter(20, 77);
        x.chapter(0, 66);
        int[][] events = {{0, 1, 66}, {10, 2, 0}, {10, 2, 2}, {20, 0, 0}, {20, 0, 2}, {20, 1, 77}, {20, 2, 1}, {20, 2, 2},
            {30, 0, 1}, {30, 0, 2}, {590, 2, 3}, {600, 0, 3}};
        for (int i = 0; i < events.length; i++) {
            for (int what = 0; what < 3; what++) {
                due("event(" + i + ", " + what + ")", x.event(i, what), events[i][what]);
            }
        }
        due("behind", x.event(events.length, 0), NONE);
        due("-1, no what", x.event(-1, 3), NONE);
        due("what 3", x.event(0, 3), BAD);
        due("what -1", x.event(0, -1), BAD);
        due("count", x.count(3), events.length);
    }

    private static void append() {
        promise = 38;
        PodcastEditor x = new PodcastEditor();
        due("31", x.append(31), BAD);
        due("127", x.append(127), BAD);
        due("MIN", x.append(MIN), BAD);
        due("32", x.append(32), 1);
        due("126", x.append(126), 2);
        for (int i = 3; i <= 60; i++) {
            due("more", x.append('c'), i);
        }
        due("61st", x.append('c'), FULL);
        due("61st, bad", x.append(0), BAD);
        due("length", x.count(7), 60);
        due("no change", x.count(4), 0);
        x.save();
        x.restore();
        due("in no snapshot", x.count(7), 60);
    }

    private static void execute() {
        promise = 39;
        PodcastEditor x = withRamp();
        x.addClip(0, 0, 0, 0, 20);
        due("a chapter", run(x, "c7=3"), 1);
        dueChapters(x, 7, 3);
        due("all letters", run(x, "s0@5;m1@100;i50+010;x2-4;c099=00;d0"), 6);
        due("clips", x.count(1), 2);
        dueClip(x, 0, 0, 2, 0, 4, 1);
        dueClip(x, 1, 0, 108, 0, 5, 15);
        dueChapters(x, 5, 3, 99, 0);
        due("steps", x.count(4), 4);
        due("text", x.count(7), 0);
        x.undo();
        due("all at once", x.count(1), 1);
        dueClip(x, 0, 0, 0, 0, 0, 20);
        due("all or none", run(x, "c1=1;d0;c2=2;d0"), REFUSED);
        due("the clip is there", x.count(1), 1);
        dueChapters(x, 7, 3);
        due("text is empty", x.count(7), 0);
        due("redo is there", x.count(5), 1);
        due("moves nothing", run(x, "m3@0"), REFUSED);
        due("code", x.refused(0), NONE);
        due("divides nothing", run(x, "c1=1;s3@1"), REFUSED);
        due("moves over the end", run(x, "m0@581"), REFUSED);
        due("code then", x.refused(0), BAD);
        due("as the clips are then", run(x, "s0@5;m1@30;m0@45"), 3);
        dueClip(x, 0, 0, 30, 0, 5, 15);
        dueClip(x, 1, 0, 45, 0, 0, 5);
    }

    private static void faultPositions() {
        promise = 39;
        PodcastEditor x = withTone(1);
        String[] wrongs = {"", "c", "c1", "c1=", "c1=1;", ";", "c1=1;;", "y", "c1-1", "c=", "c1=x", "c1000=1", "c100=1000",
            "d", "d1;", "d1000", "d1@", "x1+2", "x1-2-", "i1-2", "i1+", "s1=1", "s1@1@", "m1+1", "m@", " c1=1", "c1=1 ",
            "c1=1;C2=1", "d1d2", "x005-0060", "d-1", "c1==1", "c1=1;d"};
        int[] faults = {0, 1, 2, 3, 5, 0, 5, 0, 2, 1, 3, 4, 8,
            1, 3, 4, 2, 2, 4, 2, 3, 2, 4, 2, 1, 0, 4,
            5, 2, 8, 1, 3, 6};
        for (int i = 0; i < wrongs.length; i++) {
            due("'" + wrongs[i] + "'", run(x, wrongs[i]), -1000 - faults[i]);
            due("text is empty", x.count(7), 0);
        }
        StringBuilder full = new StringBuilder("d");
        for (int i = 0; i < 20; i++) {
            full.append("0;d");
        }
        due("60 characters, nothing behind the last ;", run(x, full.substring(0, 60)), -1060);
        due("no step", x.count(4), 1);
        due("nothing refused", x.refused(0), NOTHING);
        PodcastEditor y = crowded();
        due("twenty commands", run(y, full.substring(0, 59)), 20);
        due("four clips", y.count(1), 4);
    }

    private static void refused() {
        promise = 40;
        PodcastEditor x = withTone(1);
        due("nothing", x.refused(0), NOTHING);
        due("nothing, 1", x.refused(1), NOTHING);
        due("nothing, no what", x.refused(2), BAD);
        x.addClip(0, 0, 0, 0, 10);
        x.addClip(0, 20, 0, 0, 10);
        run(x, "c1=1;c2=2;m0@15");
        due("overlap", x.refused(0), OVERLAP);
        due("number 2", x.refused(1), 2);
        run(x, "x5-5");
        due("bad", x.refused(0), BAD);
        due("number 0", x.refused(1), 0);
        run(x, "c1=1");
        due("kept", x.refused(0), BAD);
        run(x, "what");
        due("kept, too", x.refused(0), BAD);
        x.undo();
        x.save();
        x.restore();
        due("in no snapshot", x.refused(0), BAD);
        run(x, "c1=1;c2=100");
        due("number 1", x.refused(1), 1);
        due("what 2", x.refused(2), BAD);
        due("what -1", x.refused(-1), BAD);
    }

    private static void write() {
        promise = 41;
        PodcastEditor x = new PodcastEditor();
        due("nothing", x.write(), 0);
        x.chapter(100, 10);
        x.chapter(0, 0);
        x.chapter(99, 9);
        String text = "c0=0;c99=9;c100=10";
        due("length", x.write(), text.length());
        for (int i = 0; i < text.length(); i++) {
            due("written(" + i + ")", x.written(i), text.charAt(i));
        }
        due("no step", x.count(4), 3);
        PodcastEditor y = new PodcastEditor();
        for (int i = 0; i < 12; i++) {
            y.chapter(599 - i, 99 - i);
        }
        due("the longest", y.write(), 95);
        due("its last", y.written(94), '9');
        due("behind", y.written(95), NONE);
        y.restore();
        PodcastEditor z = new PodcastEditor();
        StringBuilder copy = new StringBuilder();
        for (int i = 0; i < x.write(); i++) {
            copy.append((char) x.written(i));
        }
        due("it can be executed", run(z, copy.toString()), 3);
        dueChapters(z, 0, 0, 99, 9, 100, 10);
    }

    private static void written() {
        promise = 42;
        PodcastEditor x = new PodcastEditor();
        due("empty", x.written(0), NONE);
        x.chapter(507, 60);
        due("not yet", x.written(0), NONE);
        x.write();
        String text = "c507=60";
        for (int i = 0; i < text.length(); i++) {
            due("written(" + i + ")", x.written(i), text.charAt(i));
        }
        due("behind", x.written(7), NONE);
        due("-1", x.written(-1), NONE);
        due("MAX", x.written(MAX), NONE);
        x.undo();
        due("in no undo", x.written(0), 'c');
        x.write();
        due("empty again", x.written(0), NONE);
    }

    private static void begin() {
        promise = 43;
        PodcastEditor x = new PodcastEditor();
        due("none yet", x.begin(), 0);
        due("again", x.begin(), REFUSED);
        due("open", x.count(6), 1);
        x.set(0, 1);
        due("still open", x.begin(), REFUSED);
        x.end();
        x.set(0, 2);
        due("two", x.begin(), 2);
        due("no undo", x.undo(), REFUSED);
        due("no redo", x.redo(), REFUSED);
        due("no restore", x.restore(), REFUSED);
        x.end();
        for (int i = 0; i < 12; i++) {
            x.set(0, i);
        }
        due("ten", x.begin(), 10);
    }

    private static void end() {
        promise = 44;
        PodcastEditor x = withTone(100);
        due("none open", x.end(), REFUSED);
        x.begin();
        due("empty", x.end(), 0);
        due("none open then", x.end(), REFUSED);
        due("no step", x.count(4), 1);
        x.begin();
        x.set(0, 100);
        x.set(0, 401);
        x.addClip(0, 0, 0, 0, 20);
        x.addClip(0, 0, 0, 0, 20);
        x.setTrack(0, 3, 1);
        run(x, "c1=1;c2=2");
        run(x, "c1=1;d7");
        x.masterFor(10);
        x.save();
        x.normalize(50);
        due("five changes", x.end(), 5);
        due("one step", x.count(4), 2);
        due("closed", x.count(6), 0);
        due("undo", x.undo(), 1);
        due("no clip", x.count(1), 0);
        due("no chapter", x.count(2), 0);
        due("the master", x.count(8), 100);
        x.begin();
        x.end();
        due("redo is still there", x.count(5), 1);
        x.begin();
        x.set(0, 7);
        due("redo is gone at once", x.count(5), 0);
        x.end();
        due("the group is a step", x.count(4), 2);
    }

    private static void undo() {
        promise = 45;
        PodcastEditor x = new PodcastEditor();
        due("nothing", x.undo(), NOTHING);
        for (int i = 1; i <= 12; i++) {
            x.set(0, i);
        }
        for (int i = 9; i >= 0; i--) {
            due("undo", x.undo(), i);
            due("master", x.count(8), i + 2);
        }
        due("not the eleventh", x.undo(), NOTHING);
        due("master", x.count(8), 2);
        PodcastEditor y = withRamp();
        y.addClip(0, 0, 0, 0, 20);
        y.setClip(0, 1, 3);
        y.setTrack(0, 3, 2);
        y.chapter(5, 5);
        due("mix", y.mix(0), 0);
        y.moveClip(0, 1, 10);
        due("mix then", y.mix(19), 9);
        y.undo();
        due("mix again", y.mix(19), 19);
        dueClip(y, 0, 0, 0, 0, 0, 20, 100, 3, 0);
        y.undo();
        due("no chapter", y.count(2), 0);
        y.undo();
        due("no ducker", y.track(0, 3), NOTHING);
        y.undo();
        due("no fade", y.clip(0, 6), 0);
        y.undo();
        due("no clip", y.count(1), 0);
        due("no source", y.undo() + y.count(0), 0);
        y.begin();
        due("open", y.undo(), REFUSED);
        y.set(0, 5);
        due("open, with a change", y.undo(), REFUSED);
        due("the change stays", y.count(8), 5);
        everyChangeIsAStep();
    }

    private static void everyChangeIsAStep() {
        PodcastEditor x = new PodcastEditor();
        x.save();
        for (int i = 0; i < 17; i++) {
            x.addSource(0, 200, 100, 0);
            x.addClip(0, 0, 0, 0, 100);
            x.chapter(5, 5);
            x.save();
            x.restore();
            due("change " + i, change(x, i) == BAD ? 0 : x.count(4), 1);
            due("undone " + i, x.undo(), 0);
            due("and is redone " + i, x.redo(), 0);
            x.undo();
        }
    }

    private static int change(PodcastEditor x, int which) {
        switch (which) {
            case 0: return x.addSource(0, 1, 0, 0);
            case 1: return x.set(0, 100);
            case 2: return x.setTrack(0, 0, 100);
            case 3: return x.addClip(1, 0, 0, 0, 1);
            case 4: return x.setClip(0, 0, 100);
            case 5: return x.moveClip(0, 0, 0);
            case 6: return x.copyClip(0, 1, 0);
            case 7: return x.trim(0, 0, 0);
            case 8: return x.divide(0, 1);
            case 9: return x.remove(0);
            case 10: return x.cut(500, 600);
            case 11: return x.tighten(1, 600);
            case 12: return x.insert(500, 1);
            case 13: return x.chapter(5, 5);
            case 14: return x.dropChapter(0);
            case 15: return x.normalize(999);
            default: return run(x, "c5=5");
        }
    }

    private static void redo() {
        promise = 46;
        PodcastEditor x = new PodcastEditor();
        due("nothing", x.redo(), NOTHING);
        for (int i = 1; i <= 12; i++) {
            x.set(0, i);
        }
        due("nothing yet", x.redo(), NOTHING);
        for (int i = 0; i < 10; i++) {
            x.undo();
        }
        for (int i = 9; i >= 0; i--) {
            due("redo", x.redo(), i);
            due("master", x.count(8), 12 - i);
        }
        due("nothing more", x.redo(), NOTHING);
        x.undo();
        x.undo();
        due("failed calls are no change", x.set(0, 401), BAD);
        due("two", x.count(5), 2);
        x.mix(0);
        x.write();
        x.append('c');
        due("one", x.redo(), 1);
        x.set(0, 77);
        due("a change", x.redo(), NOTHING);
        due("undo it", x.undo(), 9);
        due("master", x.count(8), 11);
        x.begin();
        due("open", x.redo(), REFUSED);
        x.end();
        due("empty groups change nothing", x.redo(), 0);
        due("master", x.count(8), 77);
        PodcastEditor y = withRamp();
        y.addClip(0, 0, 0, 0, 20);
        y.mix(0);
        y.undo();
        y.mix(0);
        y.redo();
        due("mix", y.mix(5), 5);
        due("clip", y.clip(0, 4), 20);
        PodcastEditor z = withRamp();
        z.undo();
        z.addSource(0, 3, 44, 0);
        z.undo();
        z.redo();
        due("the later source", z.source(0, 0), 0);
        due("its value", z.sourceValue(0, 2), 44);
        z.undo();
        z.addSource(0, 7, 55, 0);
        z.addSource(0, 8, 66, 0);
        z.undo();
        z.undo();
        z.redo();
        due("its length", z.source(0, 1), 7);
        z.redo();
        due("the second one's value", z.sourceValue(1, 7), 66);
        PodcastEditor w = new PodcastEditor();
        for (int i = 1; i <= 40; i++) {
            w.set(0, i);
            if (i % 3 == 0) {
                w.undo();
                w.undo();
                w.redo();
                due("master", w.count(8), i - 1);
                w.redo();
                due("master again", w.count(8), i);
            }
        }
        for (int i = 39; i >= 30; i--) {
            w.undo();
            due("master at last", w.count(8), i);
        }
        for (int i = 31; i <= 40; i++) {
            w.redo();
            due("master forward", w.count(8), i);
        }
    }

    private static void save() {
        promise = 47;
        PodcastEditor x = withTone(100);
        due("no clips", x.save(), 0);
        x.addClip(0, 0, 0, 0, 20);
        x.addClip(1, 0, 0, 0, 20);
        due("two", x.save(), 2);
        due("no step", x.count(4), 3);
        x.undo();
        due("one", x.save(), 1);
        due("redo stays", x.count(5), 1);
        x.remove(0);
        x.begin();
        due("in a group", x.save(), 0);
        x.addClip(3, 0, 0, 0, 20);
        due("in its middle", x.save(), 1);
        due("one change", x.end(), 1);
        x.remove(0);
        x.restore();
        dueClip(x, 0, 3, 0, 0, 0, 20);
    }

    private static void restore() {
        promise = 48;
        PodcastEditor x = withTone(100);
        due("none", x.restore(), NOTHING);
        x.begin();
        due("none, open", x.restore(), REFUSED);
        x.end();
        x.addClip(0, 0, 0, 0, 20);
        x.chapter(3, 4);
        x.set(0, 50);
        x.setTrack(1, 3, 0);
        x.save();
        x.undo();
        x.addSource(0, 5, 5, 0);
        x.remove(0);
        x.dropChapter(0);
        x.set(0, 60);
        x.undo();
        type(x, "ab");
        due("restore", x.restore(), 1);
        due("no undo", x.undo(), NOTHING);
        due("no redo", x.redo(), NOTHING);
        due("counts", x.count(4) + x.count(5), 0);
        due("sources", x.count(0), 1);
        due("mix", x.mix(0), 50);
        due("ducker", x.track(1, 3), 0);
        dueChapters(x, 3, 4);
        dueClip(x, 0, 0, 0, 0, 0, 20);
        due("text", x.count(7), 2);
        x.remove(0);
        due("the snapshot stays", x.restore(), 1);
        x.set(0, 70);
        x.undo();
        due("undo to the restored", x.count(8), 50);
        due("mix heard", x.mix(0), 50);
        x.set(0, 80);
        due("mix of 80", x.mix(0), 80);
        x.restore();
        due("mix of the restored", x.mix(0), 50);
        x.setTrack(0, 0, 10);
        due("mix of a tenth", x.mix(0), 5);
        x.restore();
        due("mix of the restored again", x.mix(0), 50);
        PodcastEditor y = withTone(9);
        y.save();
        y.undo();
        y.addSource(2, 5, 77, 5);
        y.restore();
        due("the saved source", y.source(0, 1), 200);
        due("its value", y.sourceValue(0, 150), 9);
        x.begin();
        due("open", x.restore(), REFUSED);
    }

    private static void count() {
        promise = 49;
        PodcastEditor x = withTone(100);
        x.addSource(0, 1, 1, 0);
        x.addClip(0, 0, 0, 0, 20);
        x.chapter(1, 1);
        x.chapter(2, 2);
        x.set(0, 90);
        x.set(1, 20);
        x.set(2, 30);
        x.set(3, 40);
        x.set(4, 2);
        x.undo();
        type(x, "abc");
        x.begin();
        int[] counts = {2, 1, 2, 4, 9, 1, 1, 3, 90, 20, 30, 40, 0};
        for (int what = 0; what < counts.length; what++) {
            due("count(" + what + ")", x.count(what), counts[what]);
        }
        due("what 13", x.count(13), BAD);
        due("what -1", x.count(-1), BAD);
        due("what MAX", x.count(MAX), BAD);
        due("what MIN", x.count(MIN), BAD);
    }
}
