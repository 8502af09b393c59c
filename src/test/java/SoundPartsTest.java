/** The edges that 'Description' names in Frames, Sources, Clips, Fades, Tracks, Mix and Loudness. */
public final class SoundPartsTest extends Edges {
    public static void main(String[] args) {
        frames();
        sources();
        sourceValues();
        clips();
        clipOrder();
        fades();
        fadeShapes();
        tracks();
        dryAndWet();
        ducking();
        audible();
        mix();
        windows();
        gates();
        lowWindows();
        finish();
    }

    private static void frames() {
        part("Frames");
        test("the frames are numbered from 0: frame 0 is one, frame -1 is none", () -> {
            dueAll(() -> heard(7, 0, 1), 7, x -> x.mix(0), x -> x.value(0, 0, 0), x -> x.sourceValue(0, 0));
            dueAll(() -> heard(7, 0, 1), 0, x -> x.clipAt(0, 0), x -> x.explain(0, 0), x -> x.chapter(0, 0));
            refuses(Edges::busy, NONE, x -> x.mix(-1), x -> x.value(0, -1, 0), x -> x.sourceValue(0, -1),
                x -> x.clipAt(0, -1), x -> x.explain(0, -1), x -> x.chapterAt(-1));
            refuses(Edges::busy, BAD, x -> x.chapter(-1, 0), x -> x.room(0, -1, 1), x -> x.insert(-1, 1),
                x -> x.addClip(2, -1, 0, 0, 1));
        });
        test("the frames are numbered up to 599: frame 599 is one, frame 600 is none", () -> {
            dueAll(() -> heard(7, 599, 1), 7, x -> x.mix(599), x -> x.value(0, 599, 0));
            dueAll(() -> heard(7, 599, 1), 0, x -> x.clipAt(0, 599), x -> x.explain(0, 599), x -> x.chapter(599, 0));
            refuses(Edges::busy, NONE, x -> x.mix(600), x -> x.value(0, 600, 0), x -> x.clipAt(0, 600),
                x -> x.explain(0, 600), x -> x.chapterAt(600));
            refuses(Edges::busy, BAD, x -> x.chapter(600, 0), x -> x.room(0, 600, 1), x -> x.insert(600, 1),
                x -> x.addClip(2, 600, 0, 0, 1));
        });
        test("no frame is so far off that it wraps around", () -> refuses(Edges::busy, NONE,
            x -> x.mix(MIN), x -> x.mix(MAX), x -> x.value(3, MIN, 2), x -> x.value(3, MAX, 2), x -> x.sourceValue(0, MIN),
            x -> x.sourceValue(0, MAX), x -> x.clipAt(0, MIN), x -> x.clipAt(0, MAX), x -> x.explain(0, MIN),
            x -> x.explain(0, MAX), x -> x.chapterAt(MIN), x -> x.chapterAt(MAX)));
        test("a value is a number from 0 to 999", () -> {
            due(0, tone(0).sourceValue(0, 199));
            due(999, tone(999).sourceValue(0, 199));
            PodcastEditor x = empty();
            x.addSource(3, 200, 999, 7);
            int least = 999;
            int greatest = 0;
            for (int i = 0; i < 200; i++) {
                least = Math.min(least, x.sourceValue(0, i));
                greatest = Math.max(greatest, x.sourceValue(0, i));
            }
            due(3, least);
            due(997, greatest);
        });
    }

    private static void sources() {
        part("Sources");
        test("there are at most 6 sources", () -> {
            PodcastEditor x = empty();
            for (int i = 0; i < 6; i++) {
                due(i, x.addSource(0, 10, i, 0));
            }
            due(FULL, x.addSource(0, 10, 6, 0));
            due(6, x.count(0));
        });
        test("sources are numbered from 0 in the order in which they were added", () -> {
            PodcastEditor x = empty();
            int[] as = {500, 3, 999, 0, 44, 45};
            for (int a : as) {
                x.addSource(0, 1, a, 0);
            }
            for (int i = 0; i < 6; i++) {
                due(as[i], x.source(i, 2));
                due(as[i], x.sourceValue(i, 0));
            }
        });
        test("a length is at least 1", () -> {
            due(0, empty().addSource(0, 1, 0, 0));
            refuses(Edges::busy, BAD, x -> x.addSource(0, 0, 0, 0), x -> x.addSource(1, -1, 0, 0), x -> x.addSource(3, MIN, 0, 0));
        });
        test("a length is at most 200", () -> {
            due(0, empty().addSource(0, 200, 0, 0));
            refuses(Edges::busy, BAD, x -> x.addSource(0, 201, 0, 0), x -> x.addSource(2, MAX, 0, 1));
        });
        test("a is at least 0", () -> {
            dueAll(Edges::empty, 0, x -> x.addSource(0, 1, 0, 0), x -> x.addSource(3, 1, 0, 0));
            refuses(Edges::busy, BAD, x -> x.addSource(0, 1, -1, 0), x -> x.addSource(1, 1, MIN, 0),
                x -> x.addSource(2, 1, -1, 1), x -> x.addSource(3, 1, -1, 0));
        });
        test("a is at most 999", () -> {
            dueAll(Edges::empty, 0, x -> x.addSource(0, 1, 999, 0), x -> x.addSource(3, 1, 999, 0));
            refuses(Edges::busy, BAD, x -> x.addSource(0, 1, 1000, 0), x -> x.addSource(1, 1, MAX, 0),
                x -> x.addSource(2, 1, 1000, 1), x -> x.addSource(3, 1, 1000, 0));
        });
        test("kind 0, a tone: b is 0", () -> {
            due(0, empty().addSource(0, 1, 5, 0));
            refuses(Edges::busy, BAD, x -> x.addSource(0, 1, 5, 1), x -> x.addSource(0, 1, 5, -1), x -> x.addSource(0, 1, 5, MAX));
        });
        test("kind 1, a ramp: b from 0 to 999", () -> {
            dueAll(Edges::empty, 0, x -> x.addSource(1, 1, 5, 0), x -> x.addSource(1, 1, 5, 999));
            refuses(Edges::busy, BAD, x -> x.addSource(1, 1, 5, -1), x -> x.addSource(1, 1, 5, 1000), x -> x.addSource(1, 1, 5, MIN));
        });
        test("kind 2, a pulse: b from 1 to 99", () -> {
            dueAll(Edges::empty, 0, x -> x.addSource(2, 1, 5, 1), x -> x.addSource(2, 1, 5, 99));
            refuses(Edges::busy, BAD, x -> x.addSource(2, 1, 5, 0), x -> x.addSource(2, 1, 5, 100), x -> x.addSource(2, 1, 5, MIN));
        });
        test("kind 3, a noise: b from 0 to 999", () -> {
            dueAll(Edges::empty, 0, x -> x.addSource(3, 1, 5, 0), x -> x.addSource(3, 1, 5, 999));
            refuses(Edges::busy, BAD, x -> x.addSource(3, 1, 5, -1), x -> x.addSource(3, 1, 5, 1000), x -> x.addSource(3, 1, 5, MAX));
        });
        test("there are the kinds 0 to 3", () -> {
            dueAll(Edges::empty, 0, x -> x.addSource(0, 1, 5, 0), x -> x.addSource(3, 1, 5, 0));
            refuses(Edges::busy, BAD, x -> x.addSource(-1, 1, 5, 0), x -> x.addSource(4, 1, 5, 0), x -> x.addSource(MIN, 1, 5, 0),
                x -> x.addSource(MAX, 1, 5, 0));
        });
    }

    private static void dueValues(int kind, int a, int b, int... values) {
        PodcastEditor x = empty();
        x.addSource(kind, values.length, a, b);
        for (int i = 0; i < values.length; i++) {
            due(values[i], x.sourceValue(0, i));
        }
        due(NONE, x.sourceValue(0, values.length));
    }

    private static void sourceValues() {
        part("Sources");
        test("a tone is always a, from its first frame to its last", () -> dueValues(0, 321, 0, 321, 321, 321));
        test("a ramp begins with a, also if it has one frame alone", () -> {
            dueValues(1, 8, 999, 8);
            dueValues(1, 999, 0, 999);
            dueValues(1, 5, 5, 5, 5, 5);
        });
        test("a rising ramp is rounded toward 0, and does not reach b", () -> dueValues(1, 10, 20, 10, 13, 16));
        test("a falling ramp is rounded toward 0, not down", () -> dueValues(1, 10, 3, 10, 9, 7, 5));
        test("a ramp over the whole range", () -> {
            dueValues(1, 0, 999, 0, 499);
            dueValues(1, 999, 0, 999, 500);
        });
        test("a pulse with b 1 changes at each frame", () -> dueValues(2, 9, 1, 9, 0, 9, 0));
        test("a pulse is a for the first b frames, and again from 2 * b on", () -> dueValues(2, 9, 3, 9, 9, 9, 0, 0, 0, 9, 9, 9, 0));
        test("a pulse with b 99", () -> {
            PodcastEditor x = empty();
            x.addSource(2, 200, 5, 99);
            int[] frames = {0, 98, 99, 197, 198, 199};
            int[] values = {5, 5, 0, 0, 5, 5};
            for (int i = 0; i < 6; i++) {
                due(values[i], x.sourceValue(0, frames[i]));
            }
        });
        test("a noise's first value is already that of the next z", () -> dueValues(3, 500, 1, 305, 450, 93, 183, 192, 319));
        test("z overflows, and counts without its sign", () -> {
            dueValues(3, 999, 7, 332, 806, 868, 674, 531, 133);
            dueValues(3, 999, 999, 252, 652, 527, 502, 875, 530);
        });
        test("a noise with b 0", () -> dueValues(3, 999, 0, 0, 236, 756, 885, 498, 695));
        test("a noise with a 1 has the values 0 and 1", () -> dueValues(3, 1, 3, 1, 1, 1, 0, 0, 0));
        test("a noise with a 0 is always 0", () -> dueValues(3, 0, 5, 0, 0, 0));
        test("a noise goes on to frame 199", () -> {
            PodcastEditor x = empty();
            x.addSource(3, 200, 999, 999);
            x.addSource(3, 200, 999, 0);
            due(704, x.sourceValue(0, 199));
            due(585, x.sourceValue(1, 199));
        });
    }

    private static void clips() {
        part("Clips");
        test("there are 4 tracks, numbered from 0", () -> {
            dueAll(() -> tone(1), 0, x -> x.addClip(0, 0, 0, 0, 1), x -> x.addClip(3, 0, 0, 0, 1));
            refuses(Edges::busy, NONE, x -> x.addClip(4, 50, 0, 0, 1), x -> x.addClip(-1, 50, 0, 0, 1), x -> x.addClip(MIN, 50, 0, 0, 1),
                x -> x.addClip(MAX, 50, 0, 0, 1));
        });
        test("there are at most 24 clips", () -> {
            due(23, crowd(23).addClip(1, 0, 0, 0, 1));
            refuses(() -> crowd(24), FULL, x -> x.addClip(1, 0, 0, 0, 1), x -> x.copyClip(0, 1, 0), x -> x.divide(0, 1));
        });
        test("a clip has a length of at least 1", () -> {
            due(0, tone(1).addClip(0, 0, 0, 0, 1));
            refuses(Edges::busy, BAD, x -> x.addClip(2, 0, 0, 0, 0), x -> x.addClip(2, 0, 0, 0, -1), x -> x.addClip(2, 0, 0, 0, MIN));
        });
        test("a clip has the values of its source from the offset on", () -> {
            PodcastEditor x = ramp();
            x.addClip(0, 40, 0, 197, 3);
            due(0, x.value(0, 39, 0));
            due(197, x.value(0, 40, 0));
            due(199, x.value(0, 42, 0));
            due(0, x.value(0, 43, 0));
        });
        test("all of a clip's frames exist in its source", () -> {
            dueAll(Edges::ramp, 0, x -> x.addClip(0, 0, 0, 0, 200), x -> x.addClip(0, 0, 0, 199, 1), x -> x.addClip(0, 0, 0, 190, 10));
            refuses(Edges::busy, BAD, x -> x.addClip(2, 0, 0, 0, 201), x -> x.addClip(2, 0, 0, 200, 1), x -> x.addClip(2, 0, 0, 191, 10),
                x -> x.addClip(2, 0, 0, -1, 10), x -> x.addClip(2, 0, 1, 1, 40), x -> x.addClip(2, 0, 0, MAX, 1),
                x -> x.addClip(2, 0, 0, 1, MAX));
        });
        test("a clip ends at 600 at the latest", () -> {
            PodcastEditor x = tone(5);
            due(0, x.addClip(0, 400, 0, 0, 200));
            due(600, x.peak(0));
            due(5, x.mix(599));
            due(0, tone(5).addClip(0, 599, 0, 0, 1));
            refuses(Edges::busy, BAD, x2 -> x2.addClip(2, 401, 0, 0, 200), x2 -> x2.addClip(2, 599, 0, 0, 2),
                x2 -> x2.addClip(2, MAX, 0, 0, 1));
        });
        test("two clips on a track have no frame in common, one end to the other is none", () -> {
            dueAll(() -> heard(1, 100, 10), 0, x -> x.addClip(0, 90, 0, 0, 10));
            dueAll(() -> heard(1, 100, 10), 1, x -> x.addClip(0, 110, 0, 0, 10));
            refuses(() -> heard(1, 100, 10), OVERLAP, x -> x.addClip(0, 91, 0, 0, 10), x -> x.addClip(0, 109, 0, 0, 10),
                x -> x.addClip(0, 100, 0, 0, 10), x -> x.addClip(0, 104, 0, 0, 2), x -> x.addClip(0, 50, 0, 0, 100));
        });
        test("clips on different tracks may have all frames in common", () -> {
            PodcastEditor x = heard(1, 100, 10);
            for (int track = 1; track < 4; track++) {
                due(track, x.addClip(track, 100, 0, 0, 10));
            }
            due(4, x.mix(109));
        });
        test("a new clip has the gain 100 and no fades", () -> dueClip(heard(1, 0, 10), 0, 0, 0, 0, 0, 10, 100, 0, 0));
        test("a gain is from 0 to 200", () -> {
            dueAll(Edges::one, 70, x -> x.setClip(0, 0, 0), x -> x.setClip(0, 0, 200));
            refuses(Edges::one, BAD, x -> x.setClip(0, 0, -1), x -> x.setClip(0, 0, 201), x -> x.setClip(0, 0, MIN),
                x -> x.setClip(0, 0, MAX));
        });
        test("a fade is 0 at least", () -> {
            due(3, one().setClip(0, 1, 0));
            due(4, one().setClip(0, 2, 0));
            refuses(Edges::one, BAD, x -> x.setClip(0, 1, -1), x -> x.setClip(0, 2, -1), x -> x.setClip(0, 1, MIN),
                x -> x.setClip(0, 2, MIN));
        });
        test("both fades are together not more than the length", () -> {
            due(3, one().setClip(0, 1, 6));
            due(4, one().setClip(0, 2, 7));
            refuses(Edges::one, BAD, x -> x.setClip(0, 1, 7), x -> x.setClip(0, 2, 8), x -> x.setClip(0, 1, MAX),
                x -> x.setClip(0, 2, MAX));
        });
        test("one fade alone can be as long as the clip", () -> {
            due(0, heard(1, 0, 10).setClip(0, 1, 10));
            due(0, heard(1, 0, 10).setClip(0, 2, 10));
            refuses(() -> heard(1, 0, 10), BAD, x -> x.setClip(0, 1, 11), x -> x.setClip(0, 2, 11));
        });
        test("the end of all is 0 without clips", () -> {
            due(0, tone(1).peak(0));
            PodcastEditor x = heard(1, 0, 10);
            x.remove(0);
            due(0, x.peak(0));
        });
        test("the end of all is the greatest end, whichever clip has it", () -> {
            PodcastEditor x = heard(0, 300, 10);
            x.addClip(1, 0, 0, 0, 200);
            due(310, x.peak(0));
            x.addClip(3, 309, 0, 0, 1);
            due(310, x.peak(0));
            x.addClip(3, 310, 0, 0, 1);
            due(311, x.peak(0));
        });
    }

    private static void clipOrder() {
        part("Clips");
        test("clips are numbered from 0 in ascending order of their tracks, whatever their starts", () -> {
            PodcastEditor x = ramp();
            due(0, x.addClip(3, 0, 0, 1, 1));
            due(0, x.addClip(2, 100, 0, 2, 1));
            due(0, x.addClip(0, 599, 0, 3, 1));
            due(1, x.addClip(1, 300, 0, 4, 1));
            dueClips(x, 0, 599, 3, 1, 1, 300, 4, 1, 2, 100, 2, 1, 3, 0, 1, 1);
        });
        test("on the same track they are in ascending order of their starts", () -> {
            PodcastEditor x = ramp();
            due(0, x.addClip(1, 300, 0, 1, 1));
            due(0, x.addClip(1, 0, 0, 2, 1));
            due(1, x.addClip(1, 299, 0, 3, 1));
            due(3, x.addClip(1, 301, 0, 4, 1));
            dueClips(x, 1, 0, 2, 1, 1, 299, 3, 1, 1, 300, 1, 1, 1, 301, 4, 1);
        });
        test("the numbers change whenever the clips do: when one is added, moved and removed", () -> {
            PodcastEditor x = ramp();
            x.addClip(0, 50, 0, 7, 5);
            x.addClip(0, 40, 0, 8, 5);
            due(8, x.clip(0, 3));
            due(1, x.moveClip(0, 0, 60));
            due(7, x.clip(0, 3));
            due(8, x.clip(1, 3));
            x.remove(0);
            due(8, x.clip(0, 3));
            due(NONE, x.clip(1, 3));
        });
        test("the numbers are right with 24 clips, which come in descending order", () -> {
            PodcastEditor x = ramp();
            for (int i = 23; i >= 0; i--) {
                due(0, x.addClip(i / 6, 100 - 4 * (5 - i % 6), 0, i, 2));
            }
            for (int i = 0; i < 24; i++) {
                due(i, x.clip(i, 3));
                due(i / 6, x.clip(i, 0));
            }
        });
    }

    /** An editor whose clip of 8 frames has these fades; the tone is 900. */
    private static PodcastEditor faded(int gain, int in, int out, int shape) {
        PodcastEditor x = heard(900, 100, 8);
        x.setClip(0, 0, gain);
        x.setClip(0, 1, in);
        x.setClip(0, 2, out);
        x.set(4, shape);
        return x;
    }

    private static void dueFrames(PodcastEditor x, int... values) {
        int sum = 0;
        int greatest = 0;
        for (int k = 0; k < values.length; k++) {
            due(values[k], x.value(0, 100 + k, 0));
            sum += values[k];
            greatest = Math.max(greatest, values[k]);
        }
        due(greatest, x.clip(0, 8));
        due(sum, x.clip(0, 9));
    }

    private static void fades() {
        part("Fades");
        test("without fades each value is that of the source times the gain", () -> {
            dueFrames(faded(100, 0, 0, 0), 900, 900, 900, 900, 900, 900, 900, 900);
            dueFrames(faded(33, 0, 0, 1), 297, 297, 297, 297, 297, 297, 297, 297);
        });
        test("the gain is rounded down, and 0 makes all silent", () -> {
            PodcastEditor x = heard(999, 0, 1);
            x.setClip(0, 0, 1);
            due(9, x.value(0, 0, 0));
            x.setClip(0, 0, 0);
            due(0, x.value(0, 0, 0));
        });
        test("frame k is faded in if k is less than n: the last one by n of n + 1, the next one not", () ->
            dueFrames(faded(100, 2, 0, 0), 300, 600, 900, 900, 900, 900, 900, 900));
        test("a frame is faded out if m is at most n: the first one by n of n + 1, the one before not", () ->
            dueFrames(faded(100, 0, 2, 0), 900, 900, 900, 900, 900, 900, 600, 300));
        test("a fade of one frame is by 1 of 2", () -> {
            dueFrames(faded(100, 1, 0, 0), 450, 900, 900, 900, 900, 900, 900, 900);
            dueFrames(faded(100, 0, 1, 0), 900, 900, 900, 900, 900, 900, 900, 450);
        });
        test("a fade can be over all frames of the clip", () -> {
            dueFrames(faded(100, 8, 0, 0), 100, 200, 300, 400, 500, 600, 700, 800);
            dueFrames(faded(100, 0, 8, 0), 800, 700, 600, 500, 400, 300, 200, 100);
        });
        test("fades that are together as long as the clip touch each frame once", () ->
            dueFrames(faded(100, 5, 3, 0), 150, 300, 450, 600, 750, 675, 450, 225));
        test("the first frame and the last frame are the clip's, not the source's", () -> {
            PodcastEditor x = ramp();
            x.addClip(0, 100, 0, 100, 4);
            x.setClip(0, 1, 1);
            x.setClip(0, 2, 1);
            dueFrames(x, 50, 101, 102, 51);
        });
        test("values greater than 999 become 999 at last, behind the fades", () -> {
            dueFrames(faded(200, 2, 3, 0), 600, 999, 999, 999, 999, 999, 900, 450);
            dueFrames(faded(111, 0, 1, 0), 999, 999, 999, 999, 999, 999, 999, 499);
        });
        test("999 stays 999, and 1000 becomes 999", () -> {
            due(999, heard(999, 0, 1).value(0, 0, 0));
            PodcastEditor x = heard(500, 0, 1);
            x.setClip(0, 0, 200);
            due(999, x.value(0, 0, 0));
        });
    }

    private static void fadeShapes() {
        part("Fades");
        test("the shape is 0 at first", () -> {
            due(0, empty().count(12));
            PodcastEditor x = heard(900, 0, 4);
            x.setClip(0, 1, 1);
            due(450, x.value(0, 0, 0));
        });
        test("shape 0 is v * p / q, rounded down", () ->
            dueFrames(faded(100, 6, 0, 0), 128, 257, 385, 514, 642, 771, 900, 900));
        test("shape 1 is v * p * p / (q * q), rounded down", () ->
            dueFrames(faded(100, 6, 0, 1), 18, 73, 165, 293, 459, 661, 900, 900));
        test("shape 1 is one division, not one of a division", () -> {
            PodcastEditor x = heard(5, 0, 2);
            x.setClip(0, 1, 2);
            x.set(4, 1);
            due(0, x.value(0, 0, 0));
            due(2, x.value(0, 1, 0));
        });
        test("shape 2 is 0 if 2 * p is less than q, and v if it is equal", () -> {
            dueFrames(faded(100, 3, 0, 2), 0, 900, 900, 900, 900, 900, 900, 900);
            dueFrames(faded(100, 4, 0, 2), 0, 0, 900, 900, 900, 900, 900, 900);
            dueFrames(faded(100, 5, 3, 2), 0, 0, 900, 900, 900, 900, 900, 0);
        });
        test("shape 1 with the greatest numbers: a fade of 200 frames and a gain of 200", () -> {
            PodcastEditor x = heard(999, 0, 200);
            x.setClip(0, 0, 200);
            x.setClip(0, 2, 200);
            x.set(4, 1);
            due(999, x.value(0, 0, 0));
            due(1998 * 100 * 100 / (201 * 201), x.value(0, 100, 0));
            due(0, x.value(0, 199, 0));
        });
    }

    private static void tracks() {
        part("Tracks");
        test("a track is at first at volume 100, neither muted nor solo, without a ducker, 100, 50 and 5", () -> {
            int[] atFirst = {100, 0, 0, NOTHING, 100, 50, 5};
            for (int i = 0; i < 28; i++) {
                due(atFirst[i % 7], empty().track(i / 7, i % 7));
            }
        });
        int[][] ranges = {{0, 200, 100}, {0, 1, 0}, {0, 1, 0}, {}, {0, 999, 100}, {0, 100, 50}, {0, 20, 5}};
        String[] names = {"a volume is", "muted is", "solo is", "", "a threshold is", "an amount is", "a hold is"};
        for (int i = 0; i < 7; i++) {
            int what = i;
            int[] range = ranges[i];
            if (what != 3) {
                test(names[what] + " from " + range[0] + " to " + range[1], () -> {
                    dueAll(Edges::empty, range[2], x -> x.setTrack(0, what, range[0]), x -> x.setTrack(3, what, range[1]));
                    PodcastEditor x = empty();
                    x.setTrack(2, what, range[1]);
                    due(range[1], x.track(2, what));
                    due(range[1], x.setTrack(2, what, range[0]));
                    due(range[0], x.track(2, what));
                    refuses(Edges::busy, BAD, y -> y.setTrack(0, what, range[0] - 1), y -> y.setTrack(3, what, range[1] + 1),
                        y -> y.setTrack(1, what, MIN), y -> y.setTrack(1, what, MAX));
                });
            }
        }
        test("a ducker is another track", () -> {
            for (int track = 0; track < 4; track++) {
                PodcastEditor x = empty();
                for (int ducker = 0; ducker < 4; ducker++) {
                    due(track == ducker ? BAD : NOTHING, x.setTrack(track, 3, ducker));
                    x.setTrack(track, 3, -1);
                }
            }
            refuses(Edges::busy, BAD, x -> x.setTrack(0, 3, 0), x -> x.setTrack(3, 3, 3), x -> x.setTrack(0, 3, 4),
                x -> x.setTrack(0, 3, -2), x -> x.setTrack(0, 3, MIN), x -> x.setTrack(0, 3, MAX));
        });
        test("a number of a track is its own", () -> {
            PodcastEditor x = empty();
            for (int i = 0; i < 28; i++) {
                x.setTrack(i / 7, i % 7, i % 7 == 3 ? 3 - i / 7 : i % 7 == 1 || i % 7 == 2 ? i / 14 : i / 7 + 7);
            }
            for (int i = 0; i < 28; i++) {
                due(i % 7 == 3 ? 3 - i / 7 : i % 7 == 1 || i % 7 == 2 ? i / 14 : i / 7 + 7, x.track(i / 7, i % 7));
            }
        });
    }

    private static void dryAndWet() {
        part("Tracks");
        test("the dry value is 0 without a clip", () -> {
            PodcastEditor x = heard(500, 10, 10);
            due(0, x.value(0, 9, 1));
            due(500, x.value(0, 10, 1));
            due(500, x.value(0, 19, 1));
            due(0, x.value(0, 20, 1));
            due(0, x.value(1, 15, 1));
        });
        test("the dry value is the clip's times the volume divided by 100, rounded down", () -> {
            PodcastEditor x = heard(333, 0, 10);
            x.setTrack(0, 0, 50);
            due(166, x.value(0, 0, 1));
            x.setTrack(0, 0, 1);
            due(3, x.value(0, 0, 1));
            x.setTrack(0, 0, 0);
            due(0, x.value(0, 0, 1));
        });
        test("the wet value of a ducked frame is times 100 - amount, divided by 100, rounded down", () -> {
            PodcastEditor x = heard(333, 0, 10);
            x.setTrack(0, 3, 1);
            x.setTrack(0, 4, 0);
            due(166, x.value(0, 0, 2));
            x.setTrack(0, 5, 99);
            due(3, x.value(0, 0, 2));
            due(333, x.value(0, 0, 1));
        });
        test("the amount 0 leaves all, the amount 100 leaves nothing", () -> {
            PodcastEditor x = heard(333, 0, 10);
            x.setTrack(0, 3, 1);
            x.setTrack(0, 4, 0);
            x.setTrack(0, 5, 0);
            due(333, x.value(0, 0, 2));
            due(1, x.value(0, 0, 3));
            x.setTrack(0, 5, 100);
            due(0, x.value(0, 0, 2));
            due(0, x.mix(0));
        });
        test("a frame that is not ducked is as wet as it is dry", () -> {
            PodcastEditor x = heard(333, 0, 10);
            x.setTrack(0, 5, 100);
            due(333, x.value(0, 0, 2));
            x.setTrack(0, 3, 1);
            due(333, x.value(0, 0, 2));
        });
    }

    /** Track 0 is heard on all of its frames from 0 to 199; its ducker is track 2, heard on these frames with 100. */
    private static PodcastEditor ducked(int start, int length) {
        PodcastEditor x = heard(500, 0, 200);
        x.addSource(0, 200, 100, 0);
        x.addClip(2, start, 1, 0, length);
        x.setTrack(0, 3, 2);
        return x;
    }

    private static void dueDucked(PodcastEditor x, int first, int last) {
        due(0, first == 0 ? 0 : x.value(0, first - 1, 3));
        due(1, x.value(0, first, 3));
        due(1, x.value(0, last, 3));
        due(0, last == 599 ? 0 : x.value(0, last + 1, 3));
        due(last - first + 1, x.track(0, 10));
    }

    private static void ducking() {
        part("Tracks");
        test("a track without a ducker is never ducked, also with the threshold 0", () -> {
            PodcastEditor x = ducked(0, 200);
            x.setTrack(0, 4, 0);
            x.setTrack(0, 3, -1);
            due(0, x.value(0, 0, 3));
            due(0, x.track(0, 10));
            due(500 + 100, x.mix(50));
        });
        test("the ducker's dry value is at least the threshold: 100 of 100 is, 100 of 101 is not", () -> {
            PodcastEditor x = ducked(50, 10);
            dueDucked(x, 50, 64);
            x.setTrack(0, 4, 101);
            due(0, x.value(0, 50, 3));
            due(0, x.track(0, 10));
            x.setTrack(0, 4, 99);
            dueDucked(x, 50, 64);
        });
        test("it is the ducker's dry value, with its volume", () -> {
            PodcastEditor x = ducked(50, 10);
            x.setTrack(2, 0, 99);
            due(0, x.track(0, 10));
            x.setTrack(2, 0, 200);
            x.setTrack(0, 4, 200);
            dueDucked(x, 50, 64);
        });
        test("it is the ducker's dry value, not its wet value", () -> {
            PodcastEditor x = ducked(50, 10);
            x.setTrack(2, 3, 3);
            x.setTrack(2, 4, 0);
            x.setTrack(2, 5, 100);
            due(0, x.value(2, 50, 2));
            dueDucked(x, 50, 64);
        });
        test("the hold reaches from f - hold to f: with 0 it is the frame alone", () -> {
            PodcastEditor x = ducked(50, 10);
            x.setTrack(0, 6, 0);
            dueDucked(x, 50, 59);
            x.setTrack(0, 6, 1);
            dueDucked(x, 50, 60);
            x.setTrack(0, 6, 20);
            dueDucked(x, 50, 79);
        });
        test("the frames of the hold count as far as they exist: from frame 0 on, up to frame 599", () -> {
            PodcastEditor x = ducked(0, 1);
            x.setTrack(0, 6, 20);
            dueDucked(x, 0, 20);
            PodcastEditor y = heard(500, 400, 200);
            y.addSource(0, 200, 100, 0);
            y.addClip(2, 590, 1, 0, 10);
            y.setTrack(0, 3, 2);
            y.setTrack(0, 6, 20);
            dueDucked(y, 590, 599);
            due(0, y.value(0, 0, 3));
        });
        test("a short sound between two frames of the hold holds again", () -> {
            PodcastEditor x = ducked(50, 1);
            x.addClip(2, 53, 1, 0, 1);
            x.addClip(2, 70, 1, 0, 1);
            dueAll(() -> x, 1, y -> y.value(0, 58, 3), y -> y.value(0, 70, 3), y -> y.value(0, 75, 3));
            dueAll(() -> x, 0, y -> y.value(0, 59, 3), y -> y.value(0, 69, 3), y -> y.value(0, 76, 3));
            due(9 + 6, x.track(0, 10));
        });
        test("tracks can duck each other", () -> {
            PodcastEditor x = ducked(0, 10);
            x.setTrack(2, 3, 0);
            x.setTrack(2, 4, 500);
            due(1, x.value(2, 0, 3));
            due(1, x.value(0, 0, 3));
            due(250 + 50, x.mix(0));
        });
    }

    private static void audible() {
        part("Tracks");
        test("a track is audible if it is not muted and no track is solo", () -> {
            PodcastEditor x = empty();
            for (int track = 0; track < 4; track++) {
                due(1, x.track(track, 7));
            }
            x.setTrack(2, 1, 1);
            due(0, x.track(2, 7));
            due(1, x.track(3, 7));
        });
        test("if one is solo, only that one is audible", () -> {
            for (int solo = 0; solo < 4; solo++) {
                PodcastEditor x = empty();
                x.setTrack(solo, 2, 1);
                for (int track = 0; track < 4; track++) {
                    due(track == solo ? 1 : 0, x.track(track, 7));
                }
            }
        });
        test("if all are solo, all are audible", () -> {
            PodcastEditor x = empty();
            for (int track = 0; track < 4; track++) {
                x.setTrack(track, 2, 1);
            }
            for (int track = 0; track < 4; track++) {
                due(1, x.track(track, 7));
            }
        });
        test("if it is solo no more, all are audible again", () -> {
            PodcastEditor x = empty();
            x.setTrack(3, 2, 1);
            x.setTrack(3, 2, 0);
            due(1, x.track(0, 7));
        });
    }

    private static void mix() {
        part("Mix");
        test("the master is 100 at first, and from 0 to 400", () -> {
            dueAll(Edges::empty, 100, x -> x.count(8), x -> x.set(0, 0), x -> x.set(0, 400));
            refuses(Edges::busy, BAD, x -> x.set(0, -1), x -> x.set(0, 401), x -> x.set(0, MIN), x -> x.set(0, MAX));
        });
        test("the sum comes first, then the master, divided by 100 and rounded down once", () -> {
            PodcastEditor x = heard(1, 0, 10);
            x.addClip(1, 0, 0, 0, 10);
            x.addClip(2, 0, 0, 0, 10);
            x.set(0, 50);
            due(1, x.mix(0));
            x.set(0, 33);
            due(0, x.mix(0));
            x.set(0, 34);
            due(1, x.mix(0));
        });
        test("the mix is 0 with the master 0 and where nothing is", () -> {
            PodcastEditor x = heard(999, 0, 10);
            due(0, x.mix(10));
            x.set(0, 0);
            due(0, x.mix(0));
        });
        test("the mix is at most 999", () -> {
            PodcastEditor x = heard(333, 0, 10);
            x.set(0, 300);
            due(999, x.mix(0));
            x.set(0, 301);
            due(999, x.mix(0));
            x.set(0, 400);
            due(999, x.mix(0));
        });
        test("a frame is over if it would be more than 999: 999 is not, 1000 is", () -> {
            PodcastEditor x = heard(333, 0, 10);
            x.set(0, 300);
            due(0, x.peak(3));
            PodcastEditor y = heard(500, 0, 10);
            y.set(0, 200);
            due(10, y.peak(3));
            y.set(0, 199);
            due(0, y.peak(3));
        });
        test("the greatest sum: four tracks at full gain, volume and master", () -> {
            PodcastEditor x = tone(999);
            for (int track = 0; track < 4; track++) {
                x.addClip(track, 599, 0, 0, 1);
                x.setClip(track, 0, 200);
                x.setTrack(track, 0, 200);
            }
            x.set(0, 400);
            due(999, x.mix(599));
            due(1, x.peak(3));
            x.set(0, 12);
            due(1998 * 4 * 12 / 100, x.mix(599));
        });
        test("only audible tracks are in the mix", () -> {
            PodcastEditor x = heard(10, 0, 10);
            x.addClip(1, 0, 0, 0, 10);
            x.addClip(3, 0, 0, 0, 10);
            due(30, x.mix(0));
            x.setTrack(0, 1, 1);
            due(20, x.mix(0));
            x.setTrack(3, 2, 1);
            due(10, x.mix(0));
        });
    }

    private static void windows() {
        part("Loudness");
        test("the window is 10 at first, and from 4 to 50", () -> {
            dueAll(Edges::empty, 10, x -> x.count(9), x -> x.set(1, 4), x -> x.set(1, 50));
            refuses(Edges::busy, BAD, x -> x.set(1, 3), x -> x.set(1, 51), x -> x.set(1, 0), x -> x.set(1, MIN), x -> x.set(1, MAX));
        });
        test("there are as many windows as are needed: 0 for 0 frames, 1 for 1 to 10, 2 for 11", () -> {
            due(0, tone(1).loudness(0));
            due(1, heard(1, 0, 1).loudness(0));
            due(1, heard(1, 0, 10).loudness(0));
            due(2, heard(1, 0, 11).loudness(0));
            due(1, heard(1, 9, 1).loudness(0));
            due(2, heard(1, 10, 1).loudness(0));
        });
        test("150 windows of 4 frames, 12 of 50, and 13 of 49 are needed for 600", () -> {
            PodcastEditor x = heard(100, 599, 1);
            x.set(1, 4);
            due(150, x.loudness(0));
            due(2500, x.level(149));
            due(NONE, x.level(150));
            x.set(1, 50);
            due(12, x.loudness(0));
            due(200, x.level(11));
            due(NONE, x.level(12));
            x.set(1, 49);
            due(13, x.loudness(0));
            due(204, x.level(12));
        });
        test("window k begins with frame k * window", () -> {
            PodcastEditor x = heard(100, 9, 2);
            due(1000, x.level(0));
            due(1000, x.level(1));
            x.set(1, 9);
            due(0, x.level(0));
            due(20000 / 9, x.level(1));
        });
        test("the mix is 0 from frame 600 on: a window that reaches behind frame 599 is divided by its whole length", () -> {
            PodcastEditor x = heard(100, 500, 100);
            x.set(1, 7);
            due(86, x.loudness(0));
            due(50000 / 7, x.level(85));
            due(10000, x.level(84));
            x.set(1, 49);
            due(13, x.loudness(0));
            due(12 * 10000 / 49, x.level(12));
        });
        test("a window that reaches behind the end of all is divided by its whole length", () -> {
            PodcastEditor x = heard(100, 0, 13);
            due(3000, x.level(1));
            x.set(1, 50);
            due(13 * 10000 / 50, x.level(0));
        });
        test("a level is rounded down", () -> {
            PodcastEditor x = heard(1, 0, 9);
            due(0, x.level(0));
            PodcastEditor y = heard(1, 0, 10);
            due(1, y.level(0));
        });
        test("the greatest level is 999 * 999", () -> {
            PodcastEditor x = heard(999, 0, 200);
            x.set(1, 50);
            for (int window = 0; window < 4; window++) {
                due(998001, x.level(window));
            }
            due(998001, x.loudness(4));
            due(998001, x.loudnessAgain());
        });
        test("150 of the greatest levels", () -> {
            PodcastEditor x = heard(999, 0, 200);
            x.addClip(0, 200, 0, 0, 200);
            x.addClip(0, 400, 0, 0, 200);
            x.set(1, 4);
            x.set(2, 999);
            x.set(3, 100);
            due(150, x.loudness(0));
            due(0, x.loudness(1));
            due(0, x.loudness(2));
            due(998001, x.loudness(3));
            due(998001, x.loudness(4));
            due(998001, x.loudnessAgain());
        });
    }

    private static void gates() {
        part("Loudness");
        test("the gate is 10 at first, and from 0 to 999", () -> {
            dueAll(Edges::empty, 10, x -> x.count(10), x -> x.set(2, 0), x -> x.set(2, 999));
            refuses(Edges::busy, BAD, x -> x.set(2, -1), x -> x.set(2, 1000), x -> x.set(2, MIN), x -> x.set(2, MAX));
        });
        test("a window is quiet if its level is less than the square of the gate: equal is not", () -> {
            PodcastEditor x = heard(10, 0, 10);
            due(0, x.loudness(1));
            due(100, x.loudness(4));
            due(100, x.loudnessAgain());
            x.set(2, 11);
            due(1, x.loudness(1));
            due(0, x.loudness(4));
            due(0, x.loudnessAgain());
            due(1, heard(9, 0, 10).loudness(1));
        });
        test("with the gate 0 no window is quiet, also one of the level 0", () -> {
            PodcastEditor x = heard(0, 0, 20);
            due(2, x.loudness(1));
            x.set(2, 0);
            due(0, x.loudness(1));
            due(0, x.loudness(4));
        });
        test("with the gate 999 only the greatest level is not quiet", () -> {
            PodcastEditor x = heard(999, 0, 19);
            x.set(2, 999);
            due(1, x.loudness(1));
            due(998001, x.loudness(4));
            due(998001, x.loudnessAgain());
        });
        test("the mean is that of all windows that are not quiet, rounded down", () -> {
            PodcastEditor x = heard(10, 0, 10);
            x.addSource(0, 50, 11, 0);
            x.addSource(0, 50, 9, 0);
            x.addClip(0, 10, 1, 0, 10);
            x.addClip(0, 20, 2, 0, 10);
            due(1, x.loudness(1));
            due((100 + 121) / 2, x.loudness(3));
        });
        test("the mean is 0 if all windows are quiet, or there are none", () -> {
            due(0, heard(9, 0, 30).loudness(3));
            due(0, empty().loudness(3));
        });
        test("the loudness is 0 if all windows are quiet, or there are none", () -> {
            dueAll(() -> heard(9, 0, 30), 0, x -> x.loudness(4), x -> x.loudnessAgain());
            dueAll(Edges::empty, 0, x -> x.loudness(4), x -> x.loudnessAgain());
        });
    }

    /** Levels of 10000 and 2500, whose mean is 6250. */
    private static PodcastEditor twoLevels() {
        PodcastEditor x = heard(100, 0, 10);
        x.addClip(0, 10, 0, 0, 10);
        x.setClip(1, 0, 50);
        return x;
    }

    private static void lowWindows() {
        part("Loudness");
        test("the share is 25 at first, and from 0 to 100", () -> {
            dueAll(Edges::empty, 25, x -> x.count(11), x -> x.set(3, 0), x -> x.set(3, 100));
            refuses(Edges::busy, BAD, x -> x.set(3, -1), x -> x.set(3, 101), x -> x.set(3, MIN), x -> x.set(3, MAX));
        });
        test("a window is low if 100 times its level is less than the mean times the share: equal is not", () -> {
            PodcastEditor x = twoLevels();
            x.set(3, 40);
            due(0, x.loudness(2));
            due(6250, x.loudness(4));
            due(6250, x.loudnessAgain());
            x.set(3, 41);
            due(1, x.loudness(2));
            due(10000, x.loudness(4));
            due(10000, x.loudnessAgain());
        });
        test("the mean stays that of all windows that are not quiet, the low ones too", () -> {
            PodcastEditor x = twoLevels();
            x.set(3, 100);
            due(6250, x.loudness(3));
            due(10000, x.loudness(4));
        });
        test("with the share 0 none is low", () -> {
            PodcastEditor x = twoLevels();
            x.addClip(0, 29, 0, 0, 1);
            x.set(2, 0);
            x.set(3, 0);
            due(0, x.loudness(2));
            due((10000 + 2500 + 1000) / 3, x.loudness(4));
        });
        test("with the share 100 those of the mean itself are not low", () -> {
            PodcastEditor x = heard(100, 0, 30);
            x.set(3, 100);
            due(0, x.loudness(2));
            due(10000, x.loudness(4));
            due(10000, x.loudnessAgain());
        });
        test("a window at the gate itself can be low", () -> {
            PodcastEditor x = heard(100, 0, 10);
            x.addClip(0, 10, 0, 0, 10);
            x.setClip(1, 0, 10);
            due(0, x.loudness(1));
            due(1, x.loudness(2));
            due(10000, x.loudness(4));
            due(10000, x.loudnessAgain());
        });
        test("a quiet window is not low as well", () -> {
            PodcastEditor x = twoLevels();
            x.addClip(0, 30, 0, 0, 10);
            x.setClip(2, 0, 5);
            x.set(3, 100);
            due(2, x.loudness(1));
            due(1, x.loudness(2));
            due(4, x.loudness(0));
        });
    }
}
