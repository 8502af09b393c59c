/** The edges of the promises 25 to 36: values, the mix, loudness and silences. */
public final class SoundPromisesTest extends Edges {
    public static void main(String[] args) {
        value();
        mix();
        peak();
        level();
        loudness();
        masterFor();
        normalize();
        covered();
        loudnessAgain();
        silence();
        tighten();
        ifCut();
        finish();
    }

    private static void value() {
        part("Promise 25, value");
        test("the clip's value, the dry value, the wet value and whether it is ducked", () -> {
            PodcastEditor x = heard(90, 10, 10);
            x.setClip(0, 0, 50);
            x.setTrack(0, 0, 40);
            x.setTrack(0, 3, 1);
            x.setTrack(0, 4, 0);
            x.setTrack(0, 5, 90);
            int[] values = {45, 18, 1, 1};
            for (int what = 0; what < 4; what++) {
                due(values[what], x.value(0, 10, what));
                due(values[what], x.value(0, 19, what));
            }
        });
        test("all are 0 without a clip, but a frame can be ducked there", () -> {
            PodcastEditor x = empty();
            x.setTrack(3, 3, 0);
            x.setTrack(3, 4, 0);
            int[] values = {0, 0, 0, 1};
            for (int what = 0; what < 4; what++) {
                due(values[what], x.value(3, 0, what));
                due(values[what], x.value(3, 599, what));
                due(0, x.value(0, 0, what));
            }
        });
        test("the clip's value is at most 999, the dry and the wet value are not", () -> {
            PodcastEditor x = heard(999, 0, 1);
            x.setClip(0, 0, 200);
            x.setTrack(0, 0, 101);
            due(999, x.value(0, 0, 0));
            due(1008, x.value(0, 0, 1));
            due(1008, x.value(0, 0, 2));
        });
        test("a track that is not audible has its values", () -> {
            PodcastEditor x = heard(90, 0, 1);
            x.setTrack(0, 1, 1);
            due(90, x.value(0, 0, 0));
            due(90, x.value(0, 0, 2));
        });
        test("NONE if there is no such track", () -> refuses(Edges::busy, NONE, x -> x.value(-1, 0, 0), x -> x.value(4, 0, 3),
            x -> x.value(MIN, 0, 0), x -> x.value(MAX, 0, 0)));
        test("NONE if there is no such frame", () -> refuses(Edges::busy, NONE, x -> x.value(0, -1, 0), x -> x.value(3, 600, 3),
            x -> x.value(0, MIN, 1), x -> x.value(0, MAX, 2)));
        test("BAD if there is no such what", () -> refuses(Edges::busy, BAD, x -> x.value(0, 0, -1), x -> x.value(3, 599, 4),
            x -> x.value(0, 0, MIN), x -> x.value(0, 0, MAX)));
        test("NONE comes before BAD", () -> refuses(Edges::busy, NONE, x -> x.value(4, 0, 4), x -> x.value(0, 600, -1)));
    }

    private static void mix() {
        part("Promise 26, mix");
        test("the mix at the first and the last frame", () -> {
            due(7, heard(7, 0, 1).mix(0));
            due(0, heard(7, 0, 1).mix(1));
            due(7, heard(7, 599, 1).mix(599));
            due(0, heard(7, 599, 1).mix(598));
        });
        test("the mix is 0 without clips", () -> {
            due(0, empty().mix(0));
            due(0, empty().mix(599));
        });
        test("NONE if there is no such frame", () -> refuses(Edges::busy, NONE, x -> x.mix(-1), x -> x.mix(600), x -> x.mix(MIN),
            x -> x.mix(MAX)));
        test("each change is heard at once", () -> {
            PodcastEditor x = tone(100);
            due(0, x.mix(5));
            x.addClip(0, 0, 0, 0, 10);
            due(100, x.mix(5));
            x.setClip(0, 0, 50);
            due(50, x.mix(5));
            x.set(0, 200);
            due(100, x.mix(5));
            x.setTrack(0, 0, 50);
            due(50, x.mix(5));
            x.copyClip(0, 1, 0);
            due(150, x.mix(5));
            x.moveClip(1, 1, 5);
            due(50, x.mix(4));
            x.trim(1, 0, 1);
            due(50, x.mix(5));
            x.cut(0, 1);
            due(150, x.mix(5));
            x.insert(0, 1);
            due(50, x.mix(5));
            x.undo();
            due(150, x.mix(5));
            x.redo();
            due(50, x.mix(5));
            x.remove(1);
            due(0, x.mix(12));
            x.save();
            x.normalize(5);
            due(10, x.mix(5));
            x.restore();
            due(50, x.mix(5));
            run(x, "d0");
            due(0, x.mix(5));
            x.undo();
            due(50, x.mix(5));
            due(0, x.tighten(1, 1));
            x.addClip(2, 20, 0, 0, 1);
            due(200, x.mix(20));
            x.tighten(1, 1);
            due(200, x.mix(11));
        });
    }

    private static void peak() {
        part("Promise 27, peak");
        test("all are 0 without clips", () -> {
            for (int i = 0; i < 5; i++) {
                int what = i;
                dueAll(Edges::empty, 0, x -> x.peak(what));
            }
        });
        test("the end of all: 1 and 600", () -> {
            due(1, heard(0, 0, 1).peak(0));
            due(600, heard(0, 599, 1).peak(0));
        });
        test("the greatest mix at the first and at the last frame", () -> {
            due(7, heard(7, 0, 1).peak(1));
            due(7, heard(7, 599, 1).peak(1));
        });
        test("the first frame at which it is greatest: 0, 599, and the first of several", () -> {
            due(0, heard(7, 0, 5).peak(2));
            due(599, heard(7, 599, 1).peak(2));
            due(3, heard(7, 3, 5).peak(2));
            PodcastEditor x = heard(7, 50, 5);
            x.addClip(1, 20, 0, 0, 5);
            due(20, x.peak(2));
            x.addClip(2, 54, 0, 0, 1);
            due(54, x.peak(2));
        });
        test("the first frame is 1, or 598", () -> {
            due(1, heard(7, 1, 5).peak(2));
            due(598, heard(7, 598, 2).peak(2));
        });
        test("the first frame is 0 where all is silent", () -> {
            due(0, heard(0, 300, 5).peak(2));
            PodcastEditor x = heard(9, 300, 5);
            x.set(0, 0);
            due(0, x.peak(2));
        });
        test("the first frame is the first one at the limit", () -> {
            PodcastEditor x = heard(500, 0, 10);
            x.addClip(1, 5, 0, 0, 5);
            x.addClip(2, 8, 0, 0, 2);
            due(5, x.peak(2));
            due(999, x.peak(1));
            due(5, x.peak(3));
        });
        test("the frames that are over: none at 999, all 600 above", () -> {
            due(0, heard(999, 0, 200).peak(3));
            PodcastEditor x = tone(999);
            for (int i = 0; i < 3; i++) {
                x.addClip(0, 200 * i, 0, 0, 200);
            }
            x.set(0, 101);
            due(600, x.peak(3));
            due(600 * 999, x.peak(4));
        });
        test("the sum of the mix counts the first and the last frame", () -> {
            due(7, heard(7, 0, 1).peak(4));
            due(7, heard(7, 599, 1).peak(4));
        });
        test("BAD if there is no such what", () -> refuses(Edges::busy, BAD, x -> x.peak(-1), x -> x.peak(5), x -> x.peak(MIN),
            x -> x.peak(MAX)));
    }

    private static void level() {
        part("Promise 28, level");
        test("the first and the last window, NONE behind it", () -> {
            due(1000, heard(100, 0, 1).level(0));
            due(NONE, heard(100, 0, 10).level(1));
            due(1000, heard(100, 0, 11).level(1));
            due(NONE, heard(100, 0, 11).level(2));
            due(1000, heard(100, 599, 1).level(59));
            due(NONE, heard(100, 599, 1).level(60));
        });
        test("NONE without clips", () -> refuses(Edges::empty, NONE, x -> x.level(0)));
        test("NONE if there is no such window", () -> refuses(Edges::busy, NONE, x -> x.level(-1), x -> x.level(30), x -> x.level(MIN),
            x -> x.level(MAX)));
        test("there is a window for silent clips", () -> due(0, heard(0, 0, 10).level(0)));
        test("a window that is left over from longer ones is none", () -> {
            PodcastEditor x = heard(100, 599, 1);
            x.level(59);
            x.remove(0);
            x.addClip(0, 0, 0, 0, 10);
            due(10000, x.level(0));
            due(NONE, x.level(1));
        });
    }

    private static void loudness() {
        part("Promise 29, loudness");
        test("all are 0 without windows", () -> {
            for (int i = 0; i < 5; i++) {
                int what = i;
                dueAll(Edges::empty, 0, x -> x.loudness(what));
            }
        });
        test("all quiet: the mean, the loudness and those that are low are 0", () -> {
            int[] numbers = {3, 3, 0, 0, 0};
            for (int what = 0; what < 5; what++) {
                due(numbers[what], heard(9, 0, 30).loudness(what));
            }
        });
        test("one window: it is the mean and the loudness, and not low", () -> {
            PodcastEditor x = heard(100, 0, 10);
            x.set(3, 100);
            int[] numbers = {1, 0, 0, 10000, 10000};
            for (int what = 0; what < 5; what++) {
                due(numbers[what], x.loudness(what));
            }
        });
        test("quiet, low and others together", () -> {
            PodcastEditor x = heard(100, 0, 10);
            x.addClip(0, 10, 0, 0, 10);
            x.setClip(1, 0, 20);
            x.addClip(0, 20, 0, 0, 10);
            x.setClip(2, 0, 5);
            int[] numbers = {3, 1, 1, 5200, 10000};
            for (int what = 0; what < 5; what++) {
                due(numbers[what], x.loudness(what));
            }
        });
        test("the loudness is rounded down", () -> {
            PodcastEditor x = heard(10, 0, 10);
            x.addSource(0, 10, 11, 0);
            x.addClip(0, 10, 1, 0, 10);
            due(110, x.loudness(4));
            due(110, x.loudnessAgain());
        });
        test("BAD if there is no such what", () -> refuses(Edges::busy, BAD, x -> x.loudness(-1), x -> x.loudness(5), x -> x.loudness(MIN),
            x -> x.loudness(MAX)));
    }

    private static void masterFor() {
        part("Promise 30, masterFor");
        test("the target is from 1 to 999", () -> {
            due(400, empty().masterFor(1));
            due(400, empty().masterFor(999));
            refuses(Edges::busy, BAD, x -> x.masterFor(0), x -> x.masterFor(1000), x -> x.masterFor(MIN), x -> x.masterFor(MAX),
                x -> x.masterFor(65536), x -> x.masterFor(-1));
        });
        test("the greatest master is 400, where the loudness is just the square of the target", () -> {
            due(400, heard(100, 0, 10).masterFor(400));
            due(399, heard(100, 0, 10).masterFor(399));
            due(400, heard(100, 0, 10).masterFor(999));
        });
        test("the least master is 1", () -> {
            PodcastEditor x = heard(100, 0, 10);
            x.set(2, 0);
            due(1, x.masterFor(1));
            due(2, x.masterFor(2));
        });
        test("the loudness would be at most the square of the target: equal is enough", () -> {
            PodcastEditor x = heard(999, 0, 10);
            x.set(2, 0);
            due(1, x.masterFor(9));
            due(NOTHING, x.masterFor(8));
            due(99, x.masterFor(998));
        });
        test("the target 999 is always met, by the limit", () -> {
            PodcastEditor x = heard(999, 0, 10);
            x.setClip(0, 0, 200);
            x.setTrack(0, 0, 200);
            due(400, x.masterFor(999));
            due(49, x.masterFor(998));
        });
        test("NOTHING if there is none, and nothing changes", () -> refuses(() -> {
            PodcastEditor x = busy();
            x.set(2, 0);
            x.setTrack(1, 0, 200);
            x.setClip(2, 0, 200);
            return x;
        }, NOTHING, x -> x.masterFor(1)));
        test("a master that makes all windows quiet is one", () -> due(9, heard(100, 0, 10).masterFor(1)));
        test("nothing changes, not the master, not the loudness", () -> {
            same(Edges::busy, x -> x.masterFor(50), x -> 0);
            PodcastEditor x = heard(100, 0, 10);
            due(50, x.masterFor(50));
            due(100, x.count(8));
            due(10000, x.loudness(4));
            due(10000, x.level(0));
        });
        test("the master that is set does not count", () -> {
            PodcastEditor x = heard(100, 0, 10);
            x.set(0, 0);
            due(50, x.masterFor(50));
            x.set(0, 400);
            due(50, x.masterFor(50));
        });
    }

    private static void normalize() {
        part("Promise 31, normalize");
        test("it sets the master, and returns it: 1 and 400 too", () -> {
            PodcastEditor x = heard(100, 0, 10);
            due(400, x.normalize(400));
            due(400, x.count(8));
            x.set(2, 0);
            due(1, x.normalize(1));
            due(1, x.count(8));
            due(1, x.mix(0));
        });
        test("it is a change also if the master is the same", () -> {
            PodcastEditor x = heard(100, 0, 10);
            due(100, x.normalize(100));
            due(3, x.count(4));
        });
        test("BAD if the target is out of range", () -> refuses(Edges::busy, BAD, x -> x.normalize(0), x -> x.normalize(1000),
            x -> x.normalize(MIN), x -> x.normalize(MAX)));
        test("NOTHING if there is none, and the master stays", () -> refuses(() -> {
            PodcastEditor x = busy();
            x.set(2, 0);
            x.setTrack(1, 0, 200);
            x.setClip(2, 0, 200);
            return x;
        }, NOTHING, x -> x.normalize(1)));
        test("without clips it is 400", () -> {
            PodcastEditor x = empty();
            due(400, x.normalize(1));
            due(400, x.count(8));
            due(0, x.undo());
            due(100, x.count(8));
        });
    }

    private static void covered() {
        part("Promise 32, covered");
        test("0 without clips, 1 for one frame, 600 for all", () -> {
            due(0, empty().covered(0));
            due(1, heard(1, 0, 1).covered(0));
            due(1, heard(1, 599, 1).covered(0));
            PodcastEditor x = tone(1);
            for (int i = 0; i < 3; i++) {
                x.addClip(3, 200 * i, 0, 0, 200);
            }
            due(600, x.covered(3));
            due(0, x.covered(2));
        });
        test("a clip that is silent covers its frames", () -> due(10, heard(0, 5, 10).covered(0)));
        test("NONE if there is no such track", () -> refuses(Edges::busy, NONE, x -> x.covered(-1), x -> x.covered(4), x -> x.covered(MIN),
            x -> x.covered(MAX)));
    }

    private static void loudnessAgain() {
        part("Promise 33, loudnessAgain");
        test("0 without clips, and where all is quiet", () -> {
            due(0, empty().loudnessAgain());
            due(0, heard(9, 0, 200).loudnessAgain());
        });
        test("several windows of one level count each", () -> {
            PodcastEditor x = heard(100, 0, 30);
            x.addClip(0, 30, 0, 0, 10);
            x.setClip(1, 0, 60);
            due(33600 / 4, x.loudnessAgain());
            due(33600 / 4, x.loudness(4));
        });
        test("asked again behind a change it has nothing of before", () -> {
            PodcastEditor x = heard(100, 0, 10);
            x.set(2, 0);
            due(10000, x.loudnessAgain());
            x.setClip(0, 0, 50);
            due(2500, x.loudnessAgain());
            due(2500, x.loudnessAgain());
            x.setClip(0, 0, 0);
            due(0, x.loudnessAgain());
        });
        test("150 different levels, all of them quiet, and none", () -> {
            PodcastEditor x = empty();
            for (int i = 0; i < 3; i++) {
                x.addSource(1, 200, 300 * i, 300 * i + 300);
                x.addClip(0, 200 * i, i, 0, 200);
            }
            x.set(1, 4);
            x.set(2, 999);
            due(150, x.loudness(1));
            due(0, x.loudnessAgain());
            x.set(2, 0);
            due(0, x.loudness(1));
            due(x.loudness(4), x.loudnessAgain());
            x.set(3, 100);
            due(x.loudness(4), x.loudnessAgain());
            for (int window = 1; window < 150; window++) {
                due(1, x.level(window) > x.level(window - 1) ? 1 : 0);
            }
        });
        test("levels come in any order: ascending, descending, mixed", () -> {
            PodcastEditor x = empty();
            x.addSource(1, 200, 0, 999);
            x.addSource(1, 200, 999, 0);
            x.addSource(3, 200, 999, 1);
            for (int source = 0; source < 3; source++) {
                x.addClip(0, 200 * source, source, 0, 200);
                due(x.loudness(4), x.loudnessAgain());
            }
            x.set(1, 4);
            due(150, x.loudness(0));
            for (int share = 0; share <= 100; share += 10) {
                x.set(3, share);
                due(x.loudness(4), x.loudnessAgain());
            }
        });
        test("a window that reaches behind frame 599", () -> {
            PodcastEditor x = heard(100, 500, 100);
            x.set(1, 7);
            x.set(2, 0);
            x.set(3, 0);
            // 4 frames in window 71, all of 72 to 84, and 5 frames in window 85.
            int sum = 40000 / 7 + 13 * 10000 + 50000 / 7;
            due(sum / 86, x.loudnessAgain());
            due(sum / 86, x.loudness(4));
            x.set(2, 10);
            due(sum / 15, x.loudnessAgain());
            due(sum / 15, x.loudness(4));
        });
    }

    private static void silence() {
        part("Promise 34, silence");
        test("v is from 1 to 999", () -> {
            due(0, heard(999, 0, 10).silence(999, 1, -1, 0));
            due(1, heard(998, 0, 10).silence(999, 1, -1, 0));
            due(1, heard(0, 0, 10).silence(1, 1, -1, 0));
            refuses(Edges::busy, BAD, x -> x.silence(0, 1, -1, 0), x -> x.silence(1000, 1, -1, 0), x -> x.silence(MIN, 1, 0, 0),
                x -> x.silence(MAX, 1, 0, 0));
        });
        test("n is from 1 to 600", () -> {
            due(1, heard(0, 0, 10).silence(1, 1, -1, 0));
            due(0, heard(0, 0, 10).silence(1, 600, -1, 0));
            due(1, heard(0, 599, 1).silence(1, 600, -1, 0));
            refuses(Edges::busy, BAD, x -> x.silence(1, 0, -1, 0), x -> x.silence(1, 601, -1, 0), x -> x.silence(1, MIN, 0, 0),
                x -> x.silence(1, MAX, 0, 0));
        });
        test("-1 is the number of silences, 0 if there is none", () -> {
            due(0, empty().silence(999, 1, -1, 0));
            due(1, heard(5, 10, 10).silence(5, 1, -1, 1));
        });
        test("what is without meaning for -1", () -> dueAll(() -> heard(5, 10, 10), 1, x -> x.silence(5, 1, -1, -1),
            x -> x.silence(5, 1, -1, 2), x -> x.silence(5, 1, -1, MIN), x -> x.silence(5, 1, -1, MAX)));
        test("NONE if there is no such silence", () -> {
            due(0, heard(5, 10, 10).silence(5, 1, 0, 0));
            refuses(() -> heard(5, 10, 10), NONE, x -> x.silence(5, 1, 1, 0), x -> x.silence(5, 1, -2, 0), x -> x.silence(5, 1, MIN, 0),
                x -> x.silence(5, 1, MAX, 0), x -> x.silence(5, 11, 0, 0));
            due(NONE, empty().silence(999, 1, 0, 0));
        });
        test("BAD if there is no such what", () -> refuses(() -> heard(5, 10, 10), BAD, x -> x.silence(5, 1, 0, -1),
            x -> x.silence(5, 1, 0, 2), x -> x.silence(5, 1, 0, MIN), x -> x.silence(5, 1, 0, MAX)));
        test("BAD for v or n comes before NONE", () -> refuses(Edges::busy, BAD, x -> x.silence(0, 1, 300, 0), x -> x.silence(1, 601, -2, 0)));
        test("NONE comes before BAD for what", () -> refuses(Edges::busy, NONE, x -> x.silence(1, 600, 300, 2), x -> x.silence(1, 1, -2, -1)));
    }

    private static void tighten() {
        part("Promise 35, tighten");
        test("it returns the frames that were cut, each one counted once, not for each clip", () -> {
            PodcastEditor x = heard(0, 0, 50);
            x.addClip(1, 0, 0, 0, 50);
            x.addClip(2, 0, 0, 0, 50);
            due(40, x.tighten(1, 10));
            due(10, x.peak(0));
        });
        test("0 if nothing is cut, which is a change", () -> {
            PodcastEditor x = empty();
            due(0, x.tighten(1, 1));
            due(1, x.count(4));
        });
        test("v is from 1 to 999", () -> {
            due(9, heard(998, 0, 10).tighten(999, 1));
            due(9, heard(0, 0, 10).tighten(1, 1));
            refuses(Edges::busy, BAD, x -> x.tighten(0, 1), x -> x.tighten(1000, 1), x -> x.tighten(MIN, 1), x -> x.tighten(MAX, 1));
        });
        test("n is from 1 to 600", () -> {
            due(9, heard(0, 0, 10).tighten(1, 1));
            due(0, heard(0, 599, 1).tighten(1, 600));
            due(1, heard(0, 599, 1).tighten(1, 599));
            refuses(Edges::busy, BAD, x -> x.tighten(1, 0), x -> x.tighten(1, 601), x -> x.tighten(1, MIN), x -> x.tighten(1, MAX));
        });
        test("FULL if there would be more than 24 clips behind one of the cuts, and nothing changes", () ->
            refuses(() -> spread(), FULL, x -> x.tighten(50, 1), x -> x.tighten(50, 2)));
        test("a silence that is not cut does not count for FULL", () -> {
            PodcastEditor x = spread();
            due(5, x.tighten(50, 3));
            due(24, x.count(1));
        });
        test("FULL also if a later cut would take clips away again", () -> {
            refuses(() -> lateFull(), FULL, x -> x.tighten(50, 1), x -> x.tighten(50, 9));
            PodcastEditor x = lateFull();
            due(30, x.tighten(50, 10));
            due(24 - 11, x.count(1));
        });
        test("it is undone as a whole", () -> {
            same(() -> thinned(), x -> x.tighten(50, 1) == 44 && x.undo() == 9 && x.redo() == 0 ? 0 : x.set(0, 0),
                x -> x.tighten(50, 1));
            PodcastEditor x = thinned();
            x.tighten(50, 1);
            x.undo();
            due(1, picture(x).subList(13, 40).equals(picture(thinned()).subList(13, 40)) ? 1 : 0);
            due(112, x.peak(0));
        });
    }

    /** 23 clips of two frames, five frames apart, and a muted one over all of them and some frames behind. */
    private static PodcastEditor spread() {
        PodcastEditor x = thinned();
        x.addClip(1, 0, 0, 0, 120);
        x.setTrack(1, 1, 1);
        return x;
    }

    private static PodcastEditor thinned() {
        PodcastEditor x = tone(100);
        for (int i = 0; i < 23; i++) {
            x.addClip(0, 5 * i, 0, 0, 2);
        }
        return x;
    }

    /** 24 clips: 21 muted ones in the silence from 0 to 39, and one that is over the silence from 50 to 59. */
    private static PodcastEditor lateFull() {
        PodcastEditor x = heard(100, 40, 10);
        x.addClip(0, 60, 0, 0, 10);
        x.setTrack(1, 1, 1);
        x.setTrack(2, 1, 1);
        x.addClip(2, 45, 0, 0, 20);
        for (int i = 0; i < 21; i++) {
            x.addClip(1, i, 0, 0, 1);
        }
        return x;
    }

    private static void ifCut() {
        part("Promise 36, ifCut");
        test("the end of all, the loudness, the number of clips and of chapters", () -> {
            PodcastEditor x = one();
            x.setClip(0, 0, 100);
            x.setClip(0, 1, 0);
            x.setClip(0, 2, 0);
            x.chapter(104, 1);
            x.chapter(105, 2);
            x.chapter(107, 3);
            due(108, x.ifCut(104, 106, 0));
            due(2, x.ifCut(104, 106, 2));
            due(2, x.ifCut(104, 106, 3));
            int squares = 0;
            for (int v = 20; v < 30; v++) {
                squares += v == 24 || v == 25 ? 0 : v * v;
            }
            due(squares / 10, x.ifCut(104, 106, 1));
        });
        test("it is what the cut leads to, for each what", () -> {
            for (int from = 0; from < 600; from += 7) {
                PodcastEditor x = idle();
                PodcastEditor y = idle();
                int to = Math.min(600, from + 1 + from % 40);
                y.cut(from, to);
                due(y.peak(0), x.ifCut(from, to, 0));
                due(y.loudness(4), x.ifCut(from, to, 1));
                due(y.count(1), x.ifCut(from, to, 2));
                due(y.count(2), x.ifCut(from, to, 3));
            }
        });
        test("it is the loudness then also if that of now was asked before", () -> {
            PodcastEditor x = heardBefore();
            due(10000, x.ifCut(0, 10, 1));
            due(6250, x.loudness(4));
            due(2500, x.ifCut(10, 20, 1));
            due(50, x.mix(0));
            due(100, x.mix(10));
        });
        test("all are 0 if all is cut, but a chapter stays", () -> {
            int[] numbers = {0, 0, 0, 1};
            for (int what = 0; what < 4; what++) {
                due(numbers[what], idle().ifCut(0, 600, what));
                due(0, empty().ifCut(0, 600, what));
            }
        });
        test("nothing changes, with each what, also while a group is open", () -> {
            for (int i = 0; i < 4; i++) {
                int what = i;
                same(Edges::busy, x -> x.ifCut(5, 35, what), x -> 0);
                same(Edges::open, x -> x.ifCut(5, 35, what), x -> 0);
                same(() -> heardBefore(), x -> x.ifCut(0, 15, what), x -> 0);
            }
        });
        test("24 clips then are not too many, 25 are FULL", () -> {
            due(23, thinned().ifCut(1, 3, 2));
            PodcastEditor x = thinned();
            x.trim(22, 1, -1);
            due(24, x.ifCut(111, 112, 2));
            refuses(() -> {
                PodcastEditor y = thinned();
                y.trim(22, 1, -1);
                y.addClip(3, 0, 0, 0, 1);
                return y;
            }, FULL, y -> y.ifCut(111, 112, 0), y -> y.ifCut(111, 112, 3));
        });
        test("BAD if there is no such what", () -> refuses(Edges::busy, BAD, x -> x.ifCut(5, 35, -1), x -> x.ifCut(5, 35, 4),
            x -> x.ifCut(5, 35, MIN), x -> x.ifCut(5, 35, MAX)));
        test("BAD as for cut: from -1, to 601, and from not less than to", () -> {
            refuses(Edges::busy, BAD, x -> x.ifCut(-1, 35, 0), x -> x.ifCut(0, 601, 1), x -> x.ifCut(5, 5, 2), x -> x.ifCut(6, 5, 3),
                x -> x.ifCut(MIN, MAX, 0), x -> x.ifCut(MAX, MIN, 0));
            due(0, idle().ifCut(0, 600, 0));
            due(599, idle().ifCut(599, 600, 0));
        });
        test("BAD for what comes before FULL", () -> refuses(() -> {
            PodcastEditor x = spread();
            x.mix(0);
            return x;
        }, BAD, x -> x.ifCut(3, 4, 4), x -> x.ifCut(3, 4, -1)));
    }

    /** What is heard was asked before, so that a change behind it would be seen. */
    private static PodcastEditor heardBefore() {
        PodcastEditor x = heard(100, 0, 10);
        x.addClip(0, 10, 0, 0, 10);
        x.setClip(0, 0, 50);
        x.mix(0);
        x.loudness(4);
        return x;
    }
}
