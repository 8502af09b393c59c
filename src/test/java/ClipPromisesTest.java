/** The edges of the promises 1 to 18: sources, settings and clips. */
public final class ClipPromisesTest extends Edges {
    public static void main(String[] args) {
        newObject();
        addSource();
        source();
        sourceValue();
        set();
        setTrack();
        track();
        addClip();
        addClipErrors();
        clip();
        setClip();
        moveClip();
        trim();
        trimErrors();
        divide();
        remove();
        room();
        copyClip();
        clipAt();
        explain();
        finish();
    }

    private static void newObject() {
        part("Promise 1, a new object");
        test("it has no sources", () -> {
            due(0, empty().count(0));
            due(NONE, empty().source(0, 0));
            due(NONE, empty().sourceValue(0, 0));
        });
        test("it has no clips", () -> {
            due(0, empty().count(1));
            due(NONE, empty().clip(0, 0));
            due(NOTHING, empty().clipAt(0, 0));
        });
        test("it has no chapters", () -> {
            due(0, empty().count(2));
            due(NONE, empty().ofChapter(0, 0));
            due(NOTHING, empty().chapterAt(599));
        });
        test("it has no events, no steps, no group, no text, no written text, no snapshot and nothing was refused", () -> {
            for (int what = 3; what < 8; what++) {
                due(0, empty().count(what));
            }
            dueAll(Edges::empty, NOTHING, x -> x.undo(), x -> x.redo(), x -> x.restore(), x -> x.refused(0), x -> x.refused(1));
            dueAll(Edges::empty, NONE, x -> x.event(0, 0), x -> x.written(0), x -> x.level(0));
            due(REFUSED, empty().end());
            due(-1000, empty().execute());
        });
        test("its settings are 100, 10, 10, 25 and 0", () -> {
            int[] atFirst = {100, 10, 10, 25, 0};
            for (int i = 0; i < 5; i++) {
                due(atFirst[i], empty().count(8 + i));
            }
        });
        test("two editors have nothing in common", () -> {
            PodcastEditor x = idle();
            PodcastEditor y = empty();
            due(0, y.count(0) + y.count(1) + y.count(2) + y.count(4));
            due(NOTHING, y.restore());
            due(4, x.count(1));
        });
    }

    private static PodcastEditor fullOfSources() {
        PodcastEditor x = idle();
        for (int i = 3; i < 6; i++) {
            x.addSource(0, 10, i, 0);
        }
        return x;
    }

    private static void addSource() {
        part("Promise 2, addSource");
        test("it returns its number, from 0 to 5", () -> {
            PodcastEditor x = empty();
            for (int i = 0; i < 6; i++) {
                due(i, x.addSource(i % 4, 200, 999, i % 4 == 0 ? 0 : 99));
            }
        });
        test("FULL if there are 6 sources, and nothing changes", () ->
            refuses(() -> fullOfSources(), FULL, x -> x.addSource(0, 1, 0, 0), x -> x.addSource(3, 200, 999, 999)));
        test("BAD comes before FULL", () -> refuses(() -> fullOfSources(), BAD, x -> x.addSource(4, 1, 0, 0),
            x -> x.addSource(0, 0, 0, 0), x -> x.addSource(0, 1, 1000, 0), x -> x.addSource(0, 1, 0, 1)));
        test("there is room again when one was undone", () -> {
            PodcastEditor x = fullOfSources();
            x.undo();
            due(5, x.addSource(0, 1, 0, 0));
            due(FULL, x.addSource(0, 1, 0, 0));
        });
        test("all numbers wrong at once is BAD", () -> refuses(Edges::busy, BAD, x -> x.addSource(MIN, MIN, MIN, MIN),
            x -> x.addSource(MAX, MAX, MAX, MAX)));
    }

    private static void source() {
        part("Promise 3, source");
        test("its kind, length, a and b, also the greatest", () -> {
            PodcastEditor x = empty();
            x.addSource(3, 200, 999, 998);
            int[] numbers = {3, 200, 999, 998};
            for (int what = 0; what < 4; what++) {
                due(numbers[what], x.source(0, what));
            }
        });
        test("the number of clips that use it: 0, 1, 24", () -> {
            PodcastEditor x = crowd(24);
            x.addSource(0, 1, 1, 0);
            due(24, x.source(0, 4));
            due(0, x.source(1, 4));
            x.remove(0);
            x.addClip(1, 0, 1, 0, 1);
            due(23, x.source(0, 4));
            due(1, x.source(1, 4));
        });
        test("the greatest of its values, at its first, its last or another frame", () -> {
            PodcastEditor x = empty();
            x.addSource(1, 5, 100, 0);
            x.addSource(1, 5, 0, 100);
            x.addSource(2, 5, 7, 2);
            x.addSource(3, 200, 999, 7);
            x.addSource(3, 200, 0, 7);
            x.addSource(0, 1, 999, 0);
            int[] greatest = {100, 80, 7, 997, 0, 999};
            for (int i = 0; i < 6; i++) {
                due(greatest[i], x.source(i, 5));
            }
        });
        test("the greatest value does not reach behind the length", () -> {
            PodcastEditor x = empty();
            x.addSource(1, 200, 0, 999);
            x.undo();
            x.addSource(1, 3, 0, 9);
            due(6, x.source(0, 5));
        });
        test("NONE if there is no such source", () -> refuses(Edges::busy, NONE, x -> x.source(-1, 0), x -> x.source(3, 0),
            x -> x.source(3, 5), x -> x.source(MIN, 0), x -> x.source(MAX, 4)));
        test("BAD if there is no such what", () -> refuses(Edges::busy, BAD, x -> x.source(0, -1), x -> x.source(2, 6),
            x -> x.source(0, MIN), x -> x.source(0, MAX)));
        test("NONE comes before BAD", () -> refuses(Edges::busy, NONE, x -> x.source(-1, -1), x -> x.source(3, 6), x -> x.source(6, MAX)));
    }

    private static void sourceValue() {
        part("Promise 4, sourceValue");
        test("its first and its last frame", () -> {
            due(0, ramp().sourceValue(0, 0));
            due(199, ramp().sourceValue(0, 199));
            PodcastEditor x = empty();
            x.addSource(0, 1, 9, 0);
            due(9, x.sourceValue(0, 0));
        });
        test("NONE if it has no such frame", () -> {
            refuses(Edges::busy, NONE, x -> x.sourceValue(0, -1), x -> x.sourceValue(0, 200), x -> x.sourceValue(1, 40),
                x -> x.sourceValue(2, 100), x -> x.sourceValue(0, MIN), x -> x.sourceValue(0, MAX));
            due(600, busy().sourceValue(1, 39));
        });
        test("NONE if there is no such source", () -> refuses(Edges::busy, NONE, x -> x.sourceValue(-1, 0), x -> x.sourceValue(3, 0),
            x -> x.sourceValue(MIN, 0), x -> x.sourceValue(MAX, 0)));
    }

    private static void set() {
        part("Promise 5, set");
        int[][] ranges = {{0, 400, 100}, {4, 50, 10}, {0, 999, 10}, {0, 100, 25}, {0, 2, 0}};
        String[] names = {"the master", "the window", "the gate", "the share", "the shape"};
        for (int i = 0; i < 5; i++) {
            int what = i;
            int[] range = ranges[i];
            test(names[i] + " is from " + range[0] + " to " + range[1] + ", and it returns the previous value", () -> {
                PodcastEditor x = empty();
                due(range[2], x.set(what, range[0]));
                due(range[0], x.count(8 + what));
                due(range[0], x.set(what, range[1]));
                due(range[1], x.count(8 + what));
                due(range[1], x.set(what, range[1]));
                refuses(Edges::busy, BAD, y -> y.set(what, range[0] - 1), y -> y.set(what, range[1] + 1), y -> y.set(what, MIN),
                    y -> y.set(what, MAX));
            });
        }
        test("BAD if there is no such what", () -> refuses(Edges::busy, BAD, x -> x.set(-1, 10), x -> x.set(5, 10), x -> x.set(MIN, 10),
            x -> x.set(MAX, 10)));
        test("a setting changes no other one", () -> {
            PodcastEditor x = empty();
            for (int what = 0; what < 5; what++) {
                x.set(what, ranges[what][1]);
                for (int other = 0; other < 5; other++) {
                    due(ranges[other][other <= what ? 1 : 2], x.count(8 + other));
                }
            }
        });
    }

    private static void setTrack() {
        part("Promise 6, setTrack");
        test("it returns the previous number", () -> {
            PodcastEditor x = empty();
            int[] previous = {100, 0, 0, NOTHING, 100, 50, 5};
            for (int what = 0; what < 7; what++) {
                due(previous[what], x.setTrack(3, what, 1));
                due(1, x.setTrack(3, what, 0));
                due(0, x.setTrack(3, what, 0));
            }
        });
        test("NOTHING if there was no ducker, also when there is none then", () -> {
            PodcastEditor x = empty();
            due(NOTHING, x.setTrack(0, 3, -1));
            due(NOTHING, x.setTrack(0, 3, 3));
            due(3, x.setTrack(0, 3, 1));
            due(1, x.setTrack(0, 3, -1));
            due(NOTHING, x.setTrack(0, 3, -1));
        });
        test("a call that answers NOTHING for no ducker is a change", () -> {
            PodcastEditor x = empty();
            x.setTrack(0, 3, 2);
            due(1, x.count(4));
            due(0, x.undo());
            due(NOTHING, x.track(0, 3));
        });
        test("NONE if there is no such track", () -> refuses(Edges::busy, NONE, x -> x.setTrack(-1, 0, 0), x -> x.setTrack(4, 0, 0),
            x -> x.setTrack(MIN, 3, 0), x -> x.setTrack(MAX, 6, 0)));
        test("BAD if there is no such what", () -> refuses(Edges::busy, BAD, x -> x.setTrack(0, -1, 0), x -> x.setTrack(3, 7, 0),
            x -> x.setTrack(0, MIN, 0), x -> x.setTrack(0, MAX, 0)));
        test("BAD if the number is out of range", () -> refuses(Edges::busy, BAD, x -> x.setTrack(0, 0, 201), x -> x.setTrack(0, 1, 2),
            x -> x.setTrack(0, 2, -1), x -> x.setTrack(0, 3, 4), x -> x.setTrack(0, 4, 1000), x -> x.setTrack(0, 5, 101),
            x -> x.setTrack(0, 6, 21)));
        test("BAD for the track itself as its ducker", () -> refuses(Edges::busy, BAD, x -> x.setTrack(0, 3, 0), x -> x.setTrack(1, 3, 1),
            x -> x.setTrack(2, 3, 2), x -> x.setTrack(3, 3, 3)));
        test("its own number is good for all but the ducker", () -> dueAll(Edges::empty, 0, x -> x.setTrack(1, 1, 1),
            x -> x.setTrack(1, 2, 1)));
        test("NONE comes before BAD", () -> refuses(Edges::busy, NONE, x -> x.setTrack(4, 7, 0), x -> x.setTrack(-1, 0, 201),
            x -> x.setTrack(4, 3, 4)));
    }

    private static void track() {
        part("Promise 7, track");
        test("NOTHING for no ducker, otherwise the ducker, which can be 0", () -> {
            due(NOTHING, empty().track(3, 3));
            PodcastEditor x = empty();
            x.setTrack(3, 3, 0);
            due(0, x.track(3, 3));
        });
        test("the number of its clips: 0, and all 24", () -> {
            due(24, crowd(24).track(0, 8));
            due(0, crowd(24).track(1, 8));
            due(0, crowd(24).track(3, 8));
        });
        test("the sum of their lengths: 0, and all 600", () -> {
            PodcastEditor x = tone(1);
            due(0, x.track(3, 9));
            for (int i = 0; i < 3; i++) {
                x.addClip(3, 200 * i, 0, 0, 200);
            }
            due(600, x.track(3, 9));
            due(0, x.track(2, 9));
        });
        test("the ducked frames are counted before the end of all alone", () -> {
            PodcastEditor x = heard(100, 20, 10);
            x.setTrack(3, 3, 0);
            due(10, x.track(3, 10));
            x.addClip(1, 30, 0, 0, 3);
            due(13, x.track(3, 10));
            x.trim(1, 1, -10);
            due(15, x.track(3, 10));
            due(1, x.value(3, 34, 3));
            due(0, x.value(3, 35, 3));
        });
        test("the ducked frames are 0 without clips, also with the threshold 0", () -> {
            PodcastEditor x = empty();
            x.setTrack(0, 3, 1);
            x.setTrack(0, 4, 0);
            due(0, x.track(0, 10));
            due(1, x.value(0, 0, 3));
        });
        test("all 600 frames can be ducked", () -> {
            PodcastEditor x = heard(100, 599, 1);
            x.setTrack(3, 3, 1);
            x.setTrack(3, 4, 0);
            due(600, x.track(3, 10));
        });
        test("the greatest wet value: 0 without clips, at the first and the last frame, ducked or not", () -> {
            due(0, empty().track(0, 11));
            due(7, heard(7, 0, 1).track(0, 11));
            due(7, heard(7, 599, 1).track(0, 11));
            due(0, heard(7, 599, 1).track(1, 11));
            PodcastEditor x = heard(90, 0, 10);
            x.setTrack(0, 3, 1);
            x.setTrack(0, 4, 0);
            due(45, x.track(0, 11));
        });
        test("the greatest wet value counts also if the track is not audible, and can be above 999", () -> {
            PodcastEditor x = heard(999, 0, 1);
            x.setTrack(0, 0, 200);
            x.setTrack(0, 1, 1);
            due(1998, x.track(0, 11));
        });
        test("NONE if there is no such track", () -> refuses(Edges::busy, NONE, x -> x.track(-1, 0), x -> x.track(4, 11),
            x -> x.track(MIN, 3), x -> x.track(MAX, 7)));
        test("BAD if there is no such what", () -> refuses(Edges::busy, BAD, x -> x.track(0, -1), x -> x.track(3, 12),
            x -> x.track(0, MIN), x -> x.track(0, MAX)));
        test("NONE comes before BAD", () -> refuses(Edges::busy, NONE, x -> x.track(-1, -1), x -> x.track(4, 12)));
    }

    private static void addClip() {
        part("Promise 8, addClip");
        test("it returns its number: the first, between others, the last", () -> {
            PodcastEditor x = crowd(3);
            due(3, x.addClip(0, 50, 0, 0, 1));
            due(1, x.addClip(0, 2, 0, 0, 1));
            due(5, x.addClip(3, 0, 0, 0, 1));
            due(0, tone(1).addClip(3, 599, 0, 199, 1));
        });
        test("it has the gain 100 and no fades, also where one with others was before", () -> {
            PodcastEditor x = one();
            x.remove(0);
            x.addClip(1, 50, 0, 7, 10);
            dueClip(x, 0, 1, 50, 0, 7, 10, 100, 0, 0);
            PodcastEditor y = one();
            y.addClip(1, 50, 0, 7, 10);
            dueClip(y, 0, 1, 50, 0, 7, 10, 100, 0, 0);
            dueClip(y, 1, 1, 100, 0, 20, 10, 70, 3, 4);
            y.addClip(3, 50, 0, 7, 10);
            dueClip(y, 2, 3, 50, 0, 7, 10, 100, 0, 0);
        });
        test("the start is 0 at least", () -> {
            due(0, tone(1).addClip(0, 0, 0, 0, 10));
            refuses(Edges::busy, BAD, x -> x.addClip(2, -1, 0, 0, 10), x -> x.addClip(2, MIN, 0, 0, 10));
        });
        test("the offset is 0 at least", () -> {
            due(0, tone(1).addClip(0, 0, 0, 0, 10));
            refuses(Edges::busy, BAD, x -> x.addClip(2, 0, 0, -1, 10), x -> x.addClip(2, 0, 0, MIN, 10));
        });
        test("the length is 1 at least", () -> {
            due(0, tone(1).addClip(0, 0, 0, 0, 1));
            refuses(Edges::busy, BAD, x -> x.addClip(2, 0, 0, 0, 0), x -> x.addClip(2, 0, 0, 0, MIN));
        });
        test("BAD if the source has not all of the frames", () -> {
            due(2, idle().addClip(0, 50, 1, 39, 1));
            refuses(Edges::busy, BAD, x -> x.addClip(2, 0, 1, 40, 1), x -> x.addClip(2, 0, 1, 0, 41), x -> x.addClip(2, 0, 1, 20, 21),
                x -> x.addClip(2, 0, 0, 1, 200), x -> x.addClip(2, 0, 0, MAX, MAX));
        });
        test("BAD if the clip would end behind 600", () -> {
            due(3, idle().addClip(2, 560, 1, 0, 40));
            refuses(Edges::busy, BAD, x -> x.addClip(2, 561, 1, 0, 40), x -> x.addClip(2, 600, 1, 0, 1), x -> x.addClip(2, MAX, 1, 0, 40));
        });
        test("FULL if there are 24 clips", () -> {
            due(23, crowd(23).addClip(3, 0, 0, 0, 1));
            refuses(() -> crowd(24), FULL, x -> x.addClip(3, 0, 0, 0, 1));
        });
        test("OVERLAP: the last frame of one before, the first frame of one behind, and all of it", () -> {
            refuses(Edges::busy, OVERLAP, x -> x.addClip(0, 19, 0, 0, 1), x -> x.addClip(0, 30, 0, 0, 1), x -> x.addClip(0, 39, 0, 0, 1),
                x -> x.addClip(0, 20, 0, 0, 11), x -> x.addClip(0, 0, 0, 0, 200), x -> x.addClip(3, 599, 0, 0, 1));
            due(1, idle().addClip(0, 20, 0, 0, 10));
        });
    }

    private static void addClipErrors() {
        part("Promise 8, addClip");
        test("NONE if there is no such track", () -> refuses(Edges::busy, NONE, x -> x.addClip(-1, 0, 0, 0, 1), x -> x.addClip(4, 0, 0, 0, 1)));
        test("NONE if there is no such source", () -> refuses(Edges::busy, NONE, x -> x.addClip(2, 0, -1, 0, 1),
            x -> x.addClip(2, 0, 3, 0, 1), x -> x.addClip(2, 0, MIN, 0, 1), x -> x.addClip(2, 0, MAX, 0, 1)));
        test("NONE comes before BAD", () -> refuses(Edges::busy, NONE, x -> x.addClip(4, -1, 0, 0, 1), x -> x.addClip(2, 0, 3, -1, 0),
            x -> x.addClip(-1, 600, -1, 200, 201)));
        test("NONE comes before FULL", () -> refuses(() -> crowd(24), NONE, x -> x.addClip(4, 0, 0, 0, 1), x -> x.addClip(0, 0, 1, 0, 1)));
        test("NONE comes before OVERLAP", () -> refuses(Edges::busy, NONE, x -> x.addClip(0, 0, 3, 0, 1)));
        test("BAD comes before FULL", () -> refuses(() -> crowd(24), BAD, x -> x.addClip(1, -1, 0, 0, 1), x -> x.addClip(1, 0, 0, 200, 1),
            x -> x.addClip(1, 0, 0, 0, 0), x -> x.addClip(1, 599, 0, 0, 2)));
        test("BAD comes before OVERLAP", () -> refuses(Edges::busy, BAD, x -> x.addClip(0, 0, 0, 0, 0), x -> x.addClip(0, 0, 0, 1, 200),
            x -> x.addClip(3, 590, 0, 0, 11), x -> x.addClip(0, 10, 0, -1, 5)));
        test("FULL comes before OVERLAP", () -> refuses(() -> crowd(24), FULL, x -> x.addClip(0, 0, 0, 0, 1)));
    }

    private static void clip() {
        part("Promise 9, clip");
        test("its numbers, of the first and of the last of 24 clips", () -> {
            PodcastEditor x = crowd(24);
            dueClip(x, 0, 0, 0, 0, 0, 2, 100, 0, 0, 100, 200);
            dueClip(x, 23, 0, 69, 0, 0, 2, 100, 0, 0, 100, 200);
        });
        test("the greatest of its values, at its first and at its last frame", () -> {
            PodcastEditor x = ramp();
            x.addClip(0, 0, 0, 50, 150);
            due(199, x.clip(0, 8));
            x.setClip(0, 2, 150);
            x.trim(0, 1, 149);
            due(25, x.clip(0, 8));
        });
        test("the greatest is 0 with the gain 0, and the sum too", () -> {
            PodcastEditor x = one();
            x.setClip(0, 0, 0);
            due(0, x.clip(0, 8));
            due(0, x.clip(0, 9));
        });
        test("the greatest sum: 200 times 999", () -> due(199800, heard(999, 0, 200).clip(0, 9)));
        test("its values are those before the volume of the track", () -> {
            PodcastEditor x = heard(100, 0, 10);
            x.setTrack(0, 0, 0);
            x.setTrack(0, 1, 1);
            due(100, x.clip(0, 8));
            due(1000, x.clip(0, 9));
        });
        test("NONE if there is no such clip", () -> {
            refuses(Edges::busy, NONE, x -> x.clip(-1, 0), x -> x.clip(4, 0), x -> x.clip(4, 9), x -> x.clip(MIN, 0), x -> x.clip(MAX, 8));
            due(NONE, crowd(24).clip(24, 0));
        });
        test("BAD if there is no such what", () -> refuses(Edges::busy, BAD, x -> x.clip(0, -1), x -> x.clip(3, 10), x -> x.clip(0, MIN),
            x -> x.clip(0, MAX)));
        test("NONE comes before BAD", () -> refuses(Edges::busy, NONE, x -> x.clip(-1, -1), x -> x.clip(4, 10)));
    }

    private static void setClip() {
        part("Promise 10, setClip");
        test("it returns the previous number", () -> {
            PodcastEditor x = one();
            due(70, x.setClip(0, 0, 200));
            due(200, x.setClip(0, 0, 0));
            due(3, x.setClip(0, 1, 0));
            due(0, x.setClip(0, 1, 6));
            due(4, x.setClip(0, 2, 4));
            due(4, x.setClip(0, 2, 0));
            dueClip(x, 0, 1, 100, 0, 20, 10, 0, 6, 0);
        });
        test("the gain is from 0 to 200, also of a clip with fades over all frames", () -> {
            PodcastEditor x = one();
            x.setClip(0, 1, 6);
            due(70, x.setClip(0, 0, 200));
            refuses(Edges::one, BAD, y -> y.setClip(0, 0, 201), y -> y.setClip(0, 0, -1));
        });
        test("BAD if the fades would together be longer than the clip, by one frame", () -> {
            refuses(Edges::one, BAD, x -> x.setClip(0, 1, 7), x -> x.setClip(0, 2, 8));
            due(3, one().setClip(0, 1, 6));
            due(4, one().setClip(0, 2, 7));
        });
        test("BAD for a fade of a clip of one frame that has the other fade", () -> {
            PodcastEditor x = heard(1, 0, 1);
            due(0, x.setClip(0, 2, 1));
            due(BAD, x.setClip(0, 1, 1));
            due(1, x.setClip(0, 2, 0));
            due(0, x.setClip(0, 1, 1));
            due(BAD, x.setClip(0, 2, 1));
        });
        test("NONE if there is no such clip", () -> refuses(Edges::busy, NONE, x -> x.setClip(-1, 0, 0), x -> x.setClip(4, 0, 0),
            x -> x.setClip(MIN, 1, 0), x -> x.setClip(MAX, 2, 0)));
        test("BAD if there is no such what", () -> refuses(Edges::busy, BAD, x -> x.setClip(0, -1, 0), x -> x.setClip(0, 3, 0),
            x -> x.setClip(0, MIN, 0), x -> x.setClip(0, MAX, 0)));
        test("NONE comes before BAD", () -> refuses(Edges::busy, NONE, x -> x.setClip(4, 3, 0), x -> x.setClip(-1, 0, 201)));
    }

    private static void moveClip() {
        part("Promise 11, moveClip");
        test("it returns its number then, on its own track: before others, between them and behind them", () -> {
            due(0, crowd(4).moveClip(0, 0, 0));
            due(3, crowd(4).moveClip(0, 0, 598));
            due(3, crowd(4).moveClip(1, 0, 11));
            PodcastEditor x = crowd(4);
            x.moveClip(3, 0, 100);
            due(2, x.moveClip(0, 0, 50));
            due(0, x.moveClip(2, 0, 0));
        });
        test("it returns its number then, on another track", () -> {
            due(3, crowd(4).moveClip(0, 3, 0));
            PodcastEditor x = crowd(4);
            x.moveClip(3, 3, 0);
            due(2, x.moveClip(0, 1, 0));
            due(0, x.moveClip(3, 0, 0));
        });
        test("it may have frames in common with itself", () -> {
            PodcastEditor x = one();
            due(0, x.moveClip(0, 1, 101));
            due(0, x.moveClip(0, 1, 100));
            due(0, x.moveClip(0, 1, 91));
            due(0, x.moveClip(0, 1, 91));
        });
        test("it is the clip itself that moves, back or forward, by a little or past others, and the others stay", () -> {
            PodcastEditor x = ramp();
            for (int i = 0; i < 4; i++) {
                x.addClip(1, 100 + 20 * i, 0, 10 * i, 5);
            }
            due(3, x.moveClip(3, 1, 158));
            dueClips(x, 1, 100, 0, 5, 1, 120, 10, 5, 1, 140, 20, 5, 1, 158, 30, 5);
            due(3, x.moveClip(3, 1, 162));
            dueClips(x, 1, 100, 0, 5, 1, 120, 10, 5, 1, 140, 20, 5, 1, 162, 30, 5);
            due(0, x.moveClip(3, 1, 0));
            dueClips(x, 1, 0, 30, 5, 1, 100, 0, 5, 1, 120, 10, 5, 1, 140, 20, 5);
            due(2, x.moveClip(1, 1, 130));
            dueClips(x, 1, 0, 30, 5, 1, 120, 10, 5, 1, 130, 0, 5, 1, 140, 20, 5);
            due(3, x.moveClip(0, 2, 7));
            dueClips(x, 1, 120, 10, 5, 1, 130, 0, 5, 1, 140, 20, 5, 2, 7, 30, 5);
            due(0, x.moveClip(2, 0, 599 - 4));
            dueClips(x, 0, 595, 20, 5, 1, 120, 10, 5, 1, 130, 0, 5, 2, 7, 30, 5);
        });
        test("it keeps its source, offset, length, gain and fades", () -> {
            PodcastEditor x = one();
            x.moveClip(0, 3, 590);
            dueClip(x, 0, 3, 590, 0, 20, 10, 70, 3, 4);
        });
        test("the start is 0 at least", () -> {
            due(0, one().moveClip(0, 1, 0));
            refuses(Edges::busy, BAD, x -> x.moveClip(0, 0, -1), x -> x.moveClip(0, 0, MIN));
        });
        test("BAD if the clip would end behind 600", () -> {
            due(0, one().moveClip(0, 1, 590));
            refuses(Edges::busy, BAD, x -> x.moveClip(0, 2, 581), x -> x.moveClip(1, 2, 591), x -> x.moveClip(0, 2, MAX));
            due(2, idle().moveClip(0, 2, 580));
        });
        test("OVERLAP: one frame before and one frame behind another one", () -> {
            refuses(Edges::busy, OVERLAP, x -> x.moveClip(0, 0, 11), x -> x.moveClip(0, 0, 39), x -> x.moveClip(1, 0, 19),
                x -> x.moveClip(1, 3, 581), x -> x.moveClip(0, 1, 15));
            due(0, idle().moveClip(0, 0, 10));
            due(1, idle().moveClip(0, 0, 40));
        });
        test("24 clips are no obstacle", () -> {
            due(23, crowd(24).moveClip(0, 0, 598));
            due(23, crowd(24).moveClip(23, 0, 69));
            due(23, crowd(24).moveClip(5, 2, 0));
        });
        test("NONE if there is no such clip", () -> refuses(Edges::busy, NONE, x -> x.moveClip(-1, 0, 0), x -> x.moveClip(4, 0, 0),
            x -> x.moveClip(MIN, 0, 0), x -> x.moveClip(MAX, 0, 0)));
        test("NONE if there is no such track", () -> refuses(Edges::busy, NONE, x -> x.moveClip(0, -1, 50), x -> x.moveClip(0, 4, 50),
            x -> x.moveClip(0, MIN, 50), x -> x.moveClip(0, MAX, 50)));
        test("NONE comes before BAD", () -> refuses(Edges::busy, NONE, x -> x.moveClip(4, 0, -1), x -> x.moveClip(0, 4, 600)));
        test("BAD comes before OVERLAP", () -> refuses(Edges::busy, BAD, x -> x.moveClip(0, 3, 595), x -> x.moveClip(1, 0, -5)));
    }

    private static void trim() {
        part("Promise 12, trim");
        test("it returns its length then; by 0 frames nothing changes", () -> {
            due(10, one().trim(0, 0, 0));
            due(10, one().trim(0, 1, 0));
            due(9, one().trim(0, 0, 1));
            due(11, one().trim(0, 1, -1));
        });
        test("the beginning moves: start, offset and length", () -> {
            PodcastEditor x = one();
            x.trim(0, 0, 2);
            dueClip(x, 0, 1, 102, 0, 22, 8, 70, 3, 4);
            x.trim(0, 0, -5);
            dueClip(x, 0, 1, 97, 0, 17, 13, 70, 3, 4);
        });
        test("the end moves: the length alone", () -> {
            PodcastEditor x = one();
            x.trim(0, 1, 2);
            dueClip(x, 0, 1, 100, 0, 20, 8, 70, 3, 4);
            x.trim(0, 1, -5);
            dueClip(x, 0, 1, 100, 0, 20, 13, 70, 3, 4);
        });
        test("one frame can be left, at the end and at the beginning", () -> {
            PodcastEditor x = one();
            due(1, x.trim(0, 0, 9));
            dueClip(x, 0, 1, 109, 0, 29, 1, 70, 1, 0);
            PodcastEditor y = one();
            due(1, y.trim(0, 1, 9));
            dueClip(y, 0, 1, 100, 0, 20, 1, 70, 1, 0);
        });
        test("BAD if the length would be less than 1", () -> refuses(Edges::one, BAD, x -> x.trim(0, 0, 10), x -> x.trim(0, 1, 10),
            x -> x.trim(0, 0, 11), x -> x.trim(0, 1, MAX), x -> x.trim(0, 0, MAX)));
        test("BAD if it would begin before 0", () -> {
            PodcastEditor x = ramp();
            x.addClip(0, 5, 0, 20, 10);
            due(15, x.trim(0, 0, -5));
            dueClip(x, 0, 0, 0, 0, 15, 15);
            refuses(() -> {
                PodcastEditor y = ramp();
                y.addClip(0, 5, 0, 20, 10);
                return y;
            }, BAD, y -> y.trim(0, 0, -6), y -> y.trim(0, 0, MIN));
        });
        test("BAD if it would end behind 600", () -> {
            PodcastEditor x = ramp();
            x.addClip(0, 580, 0, 20, 10);
            due(20, x.trim(0, 1, -10));
            due(600, x.peak(0));
            refuses(() -> {
                PodcastEditor y = ramp();
                y.addClip(0, 580, 0, 20, 10);
                return y;
            }, BAD, y -> y.trim(0, 1, -11), y -> y.trim(0, 1, MIN));
        });
        test("BAD if the source has not all of the frames before", () -> {
            due(30, one().trim(0, 0, -20));
            refuses(Edges::one, BAD, x -> x.trim(0, 0, -21), x -> x.trim(0, 0, -191));
        });
        test("BAD if the source has not all of the frames behind", () -> {
            due(180, one().trim(0, 1, -170));
            refuses(Edges::one, BAD, x -> x.trim(0, 1, -171), x -> x.trim(0, 1, -191));
        });
        test("a clip can become as long as its source of 200 frames", () -> {
            PodcastEditor x = one();
            x.trim(0, 0, -20);
            due(200, x.trim(0, 1, -170));
            dueClip(x, 0, 1, 80, 0, 0, 200, 70, 3, 4);
        });
        test("OVERLAP, by one frame, on both sides", () -> {
            refuses(() -> between(), OVERLAP, x -> x.trim(1, 0, -11), x -> x.trim(1, 1, -11));
            due(20, between().trim(1, 0, -10));
            due(20, between().trim(1, 1, -10));
        });
    }

    /** A clip of 10 frames, with 10 free frames on each side of it. */
    private static PodcastEditor between() {
        PodcastEditor x = ramp();
        x.addClip(0, 0, 0, 0, 10);
        x.addClip(0, 20, 0, 50, 10);
        x.addClip(0, 40, 0, 0, 10);
        return x;
    }

    private static void trimErrors() {
        part("Promise 12, trim");
        test("its fades stay, shortened if need be", () -> {
            PodcastEditor x = one();
            x.trim(0, 0, 3);
            dueClip(x, 0, 1, 103, 0, 23, 7, 70, 3, 4);
            x.trim(0, 0, 1);
            dueClip(x, 0, 1, 104, 0, 24, 6, 70, 3, 3);
        });
        test("NONE if there is no such clip", () -> refuses(Edges::busy, NONE, x -> x.trim(-1, 0, 0), x -> x.trim(4, 0, 0),
            x -> x.trim(MIN, 1, 0), x -> x.trim(MAX, 1, 0)));
        test("BAD if there is no such side", () -> refuses(Edges::busy, BAD, x -> x.trim(0, -1, 0), x -> x.trim(0, 2, 0),
            x -> x.trim(0, MIN, 1), x -> x.trim(0, MAX, 1)));
        test("NONE comes before BAD", () -> refuses(Edges::busy, NONE, x -> x.trim(4, 2, 0), x -> x.trim(-1, 0, MAX)));
        test("BAD comes before OVERLAP", () -> {
            refuses(() -> between(), BAD, x -> x.trim(1, 0, -21), x -> x.trim(1, 0, -51), x -> x.trim(1, 1, -141));
            refuses(() -> between(), OVERLAP, x -> x.trim(1, 0, -20), x -> x.trim(1, 1, -140));
        });
    }

    private static void divide() {
        part("Promise 13, divide");
        test("it returns the number of the second part", () -> {
            due(1, one().divide(0, 5));
            due(23, crowd(23).divide(22, 1));
            due(1, crowd(23).divide(0, 1));
        });
        test("at is from 1 to its length minus 1", () -> {
            dueAll(Edges::one, 1, x -> x.divide(0, 1), x -> x.divide(0, 9));
            refuses(Edges::one, BAD, x -> x.divide(0, 0), x -> x.divide(0, 10), x -> x.divide(0, -1), x -> x.divide(0, MIN),
                x -> x.divide(0, MAX));
        });
        test("a clip of one frame can't be divided", () -> refuses(() -> heard(1, 0, 1), BAD, x -> x.divide(0, 0), x -> x.divide(0, 1)));
        test("NONE if there is no such clip", () -> refuses(Edges::busy, NONE, x -> x.divide(-1, 1), x -> x.divide(4, 1),
            x -> x.divide(MIN, 1), x -> x.divide(MAX, 1)));
        test("FULL if there are 24 clips", () -> {
            refuses(() -> crowd(24), FULL, x -> x.divide(0, 1), x -> x.divide(23, 1));
            due(2, crowd(23).divide(1, 1));
        });
        test("NONE comes before BAD", () -> refuses(Edges::busy, NONE, x -> x.divide(4, 0), x -> x.divide(-1, MAX)));
        test("NONE comes before FULL", () -> refuses(() -> crowd(24), NONE, x -> x.divide(24, 1), x -> x.divide(-1, 1)));
        test("BAD comes before FULL", () -> refuses(() -> crowd(24), BAD, x -> x.divide(0, 0), x -> x.divide(23, 2)));
    }

    private static void remove() {
        part("Promise 14, remove");
        test("it returns the number of clips that remain, down to 0", () -> {
            PodcastEditor x = crowd(24);
            for (int i = 23; i >= 0; i--) {
                due(i, x.remove(i / 2));
            }
            due(NONE, x.remove(0));
        });
        test("the first one and the last one", () -> {
            PodcastEditor x = crowd(3);
            x.remove(2);
            dueClips(x, 0, 0, 0, 2, 0, 3, 0, 2);
            x.remove(0);
            dueClips(x, 0, 3, 0, 2);
        });
        test("nothing of a removed clip stays, also of the last one", () -> {
            PodcastEditor x = one();
            x.remove(0);
            due(NOTHING, x.clipAt(1, 100));
            due(0, x.covered(1) + x.track(1, 8) + x.track(1, 9) + x.peak(0) + x.value(1, 105, 0) + x.source(0, 4));
            due(100, x.room(1, 100, 500));
            due(0, x.count(3));
            PodcastEditor y = crowd(23);
            y.addClip(3, 0, 0, 0, 10);
            y.remove(23);
            due(24, y.insert(1, 1));
        });
        test("NONE if there is no such clip", () -> {
            refuses(Edges::busy, NONE, x -> x.remove(-1), x -> x.remove(4), x -> x.remove(MIN), x -> x.remove(MAX));
            refuses(Edges::empty, NONE, x -> x.remove(0));
        });
    }

    /** Track 2 is free on the frames 0 to 9, 20 to 24 and 590 to 599. */
    private static PodcastEditor crowdedTrack() {
        PodcastEditor x = tone(1);
        x.addClip(2, 10, 0, 0, 10);
        x.addClip(2, 25, 0, 0, 165);
        x.addClip(2, 190, 0, 0, 200);
        x.addClip(2, 390, 0, 0, 200);
        return x;
    }

    private static void room() {
        part("Promise 15, room");
        test("the first start is from itself if there is room", () -> {
            due(0, empty().room(0, 0, 600));
            due(0, empty().room(3, 0, 1));
            due(599, empty().room(0, 599, 1));
            due(300, empty().room(0, 300, 300));
        });
        test("a gap of just this length is room, one that is a frame shorter is not", () -> {
            due(0, crowdedTrack().room(2, 0, 10));
            due(590, crowdedTrack().room(2, 1, 10));
            due(20, crowdedTrack().room(2, 6, 5));
            due(590, crowdedTrack().room(2, 6, 6));
            due(NOTHING, crowdedTrack().room(2, 0, 11));
        });
        test("the start is not less than from", () -> {
            due(5, crowdedTrack().room(2, 5, 5));
            due(20, crowdedTrack().room(2, 6, 5));
            due(20, crowdedTrack().room(2, 20, 5));
            due(590, crowdedTrack().room(2, 21, 5));
            due(595, crowdedTrack().room(2, 595, 5));
            due(NOTHING, crowdedTrack().room(2, 596, 5));
        });
        test("NOTHING if the clip would end behind 600", () -> refuses(Edges::busy, NOTHING, x -> x.room(2, 1, 600),
            x -> x.room(2, 599, 2), x -> x.room(2, 599, 600), x -> x.room(0, 0, 600)));
        test("the room of another track does not count", () -> {
            due(0, crowdedTrack().room(1, 0, 600));
            due(0, crowdedTrack().room(3, 0, 600));
        });
        test("there is room also when there are 24 clips, or no source is so long", () -> due(71, crowd(24).room(0, 3, 500)));
        test("from is from 0 to 599", () -> {
            due(0, empty().room(0, 0, 1));
            due(599, empty().room(0, 599, 1));
            refuses(Edges::busy, BAD, x -> x.room(0, -1, 1), x -> x.room(0, 600, 1), x -> x.room(0, MIN, 1), x -> x.room(0, MAX, 1));
        });
        test("the length is from 1 to 600", () -> {
            due(0, empty().room(0, 0, 1));
            due(0, empty().room(0, 0, 600));
            refuses(Edges::busy, BAD, x -> x.room(2, 0, 0), x -> x.room(2, 0, 601), x -> x.room(2, 0, MIN), x -> x.room(2, 0, MAX),
                x -> x.room(2, 599, MAX));
        });
        test("NONE if there is no such track", () -> refuses(Edges::busy, NONE, x -> x.room(-1, 0, 1), x -> x.room(4, 0, 1),
            x -> x.room(MIN, 0, 1), x -> x.room(MAX, 0, 1)));
        test("NONE comes before BAD", () -> refuses(Edges::busy, NONE, x -> x.room(4, 600, 1), x -> x.room(-1, 0, 0)));
        test("a clip of one frame has room on the one frame that is free, and none when that is gone", () -> {
            PodcastEditor x = tone(1);
            x.addClip(0, 0, 0, 0, 200);
            x.addClip(0, 201, 0, 0, 199);
            x.addClip(0, 400, 0, 0, 200);
            due(200, x.room(0, 0, 1));
            due(NOTHING, x.room(0, 201, 1));
            x.addClip(0, 200, 0, 0, 1);
            due(NOTHING, x.room(0, 0, 1));
        });
    }

    private static void copyClip() {
        part("Promise 16, copyClip");
        test("it returns the number of the copy: before, just behind, far behind, on other tracks", () -> {
            due(0, one().copyClip(0, 1, 90));
            due(1, one().copyClip(0, 1, 110));
            due(0, one().copyClip(0, 0, 590));
            due(1, one().copyClip(0, 3, 0));
        });
        test("the copy has the gain and the fades, the source, the offset and the length", () -> {
            PodcastEditor x = one();
            x.copyClip(0, 3, 590);
            dueClip(x, 1, 3, 590, 0, 20, 10, 70, 3, 4);
            dueClip(x, 0, 1, 100, 0, 20, 10, 70, 3, 4);
            x.copyClip(0, 0, 0);
            dueClip(x, 0, 0, 0, 0, 20, 10, 70, 3, 4);
            dueClip(x, 1, 1, 100, 0, 20, 10, 70, 3, 4);
        });
        test("the copy is one of its own", () -> {
            PodcastEditor x = one();
            x.copyClip(0, 3, 590);
            x.setClip(1, 0, 9);
            due(70, x.clip(0, 5));
        });
        test("the start is 0 at least, and the copy ends at 600 at the latest", () -> {
            due(0, one().copyClip(0, 1, 0));
            due(1, one().copyClip(0, 1, 590));
            refuses(Edges::one, BAD, x -> x.copyClip(0, 0, -1), x -> x.copyClip(0, 0, 591), x -> x.copyClip(0, 0, MIN),
                x -> x.copyClip(0, 0, MAX));
        });
        test("FULL if there are 24 clips", () -> {
            due(23, crowd(23).copyClip(0, 3, 0));
            refuses(() -> crowd(24), FULL, x -> x.copyClip(0, 3, 0));
        });
        test("OVERLAP with itself and with others", () -> refuses(Edges::busy, OVERLAP, x -> x.copyClip(0, 0, 0),
            x -> x.copyClip(1, 0, 19), x -> x.copyClip(1, 0, 21), x -> x.copyClip(0, 1, 39)));
        test("NONE if there is no such clip", () -> refuses(Edges::busy, NONE, x -> x.copyClip(-1, 2, 0), x -> x.copyClip(4, 2, 0),
            x -> x.copyClip(MIN, 2, 0), x -> x.copyClip(MAX, 2, 0)));
        test("NONE if there is no such track", () -> refuses(Edges::busy, NONE, x -> x.copyClip(0, -1, 0), x -> x.copyClip(0, 4, 0),
            x -> x.copyClip(0, MIN, 0), x -> x.copyClip(0, MAX, 0)));
        test("NONE comes before BAD", () -> refuses(Edges::busy, NONE, x -> x.copyClip(4, 0, -1), x -> x.copyClip(0, 4, 600)));
        test("NONE comes before FULL", () -> refuses(() -> crowd(24), NONE, x -> x.copyClip(24, 0, 100), x -> x.copyClip(0, 4, 100)));
        test("BAD comes before FULL", () -> refuses(() -> crowd(24), BAD, x -> x.copyClip(0, 1, -1), x -> x.copyClip(0, 1, 599)));
        test("BAD comes before OVERLAP", () -> refuses(Edges::busy, BAD, x -> x.copyClip(0, 0, -1), x -> x.copyClip(1, 3, 591)));
        test("FULL comes before OVERLAP", () -> refuses(() -> crowd(24), FULL, x -> x.copyClip(0, 0, 0)));
    }

    private static void clipAt() {
        part("Promise 17, clipAt");
        test("the clip's first and last frame belong to it, the ones before and behind do not", () -> {
            due(NOTHING, one().clipAt(1, 99));
            due(0, one().clipAt(1, 100));
            due(0, one().clipAt(1, 109));
            due(NOTHING, one().clipAt(1, 110));
        });
        test("of two clips end to end each has its own frames", () -> {
            PodcastEditor x = one();
            x.divide(0, 5);
            due(0, x.clipAt(1, 104));
            due(1, x.clipAt(1, 105));
        });
        test("NOTHING if there is no clip: on another track, in an empty editor", () -> {
            dueAll(Edges::one, NOTHING, x -> x.clipAt(0, 100), x -> x.clipAt(2, 100), x -> x.clipAt(3, 599));
            dueAll(Edges::empty, NOTHING, x -> x.clipAt(0, 0), x -> x.clipAt(3, 599));
        });
        test("NONE if there is no such track", () -> refuses(Edges::busy, NONE, x -> x.clipAt(-1, 0), x -> x.clipAt(4, 0),
            x -> x.clipAt(MIN, 0), x -> x.clipAt(MAX, 0)));
        test("NONE if there is no such frame", () -> refuses(Edges::busy, NONE, x -> x.clipAt(3, -1), x -> x.clipAt(3, 600)));
    }

    /** Track 1 has a clip on the frames 100 to 109, with fades of 3 and 4 frames; track 2 can duck it. */
    private static PodcastEditor explained() {
        PodcastEditor x = one();
        x.addClip(2, 100, 0, 150, 3);
        return x;
    }

    private static void explain() {
        part("Promise 18, explain");
        test("1 if there is no clip, also if the track is muted", () -> {
            due(1, explained().explain(1, 99));
            due(1, explained().explain(1, 110));
            due(1, explained().explain(3, 100));
            PodcastEditor x = explained();
            x.setTrack(1, 1, 1);
            due(1, x.explain(1, 110));
            due(1, empty().explain(0, 0));
        });
        test("2 if the track is muted, also if another one is solo, it is ducked, and in the fade in", () -> {
            PodcastEditor x = explained();
            x.setTrack(1, 3, 2);
            x.setTrack(2, 2, 1);
            x.setTrack(1, 1, 1);
            due(2, x.explain(1, 100));
            due(2, x.explain(1, 109));
        });
        test("3 if it is not audible for another reason, also if it is ducked", () -> {
            PodcastEditor x = explained();
            x.setTrack(1, 3, 2);
            x.setTrack(2, 2, 1);
            due(3, x.explain(1, 100));
            due(3, x.explain(1, 109));
        });
        test("4 if it is ducked, also in the fade in and in the fade out", () -> {
            PodcastEditor x = explained();
            x.setTrack(1, 3, 2);
            x.setTrack(1, 6, 20);
            due(4, x.explain(1, 100));
            due(4, x.explain(1, 104));
            due(4, x.explain(1, 109));
            x.setTrack(1, 6, 1);
            due(4, x.explain(1, 103));
            due(0, x.explain(1, 104));
        });
        test("4 also with the amount 0", () -> {
            PodcastEditor x = explained();
            x.setTrack(1, 3, 2);
            x.setTrack(1, 5, 0);
            due(4, x.explain(1, 100));
        });
        test("5 from the first to the last frame of the fade in, otherwise 0", () -> {
            due(5, explained().explain(1, 100));
            due(5, explained().explain(1, 102));
            due(0, explained().explain(1, 103));
        });
        test("5 from the first to the last frame of the fade out, otherwise 0", () -> {
            due(0, explained().explain(1, 105));
            due(5, explained().explain(1, 106));
            due(5, explained().explain(1, 109));
        });
        test("0 on the first and the last frame of a clip without fades", () -> {
            due(0, explained().explain(2, 100));
            due(0, explained().explain(2, 102));
        });
        test("5 also if the fade leaves the value as it is, with shape 2", () -> {
            PodcastEditor x = explained();
            x.set(4, 2);
            due(5, x.explain(1, 102));
        });
        test("NONE if there is no such track", () -> refuses(Edges::busy, NONE, x -> x.explain(-1, 0), x -> x.explain(4, 0),
            x -> x.explain(MIN, 0), x -> x.explain(MAX, 0)));
        test("NONE if there is no such frame", () -> refuses(Edges::busy, NONE, x -> x.explain(3, -1), x -> x.explain(3, 600)));
    }
}
