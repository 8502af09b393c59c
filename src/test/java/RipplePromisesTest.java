/** The edges of the promises 19 to 24: ripples and chapters. */
public final class RipplePromisesTest extends Edges {
    public static void main(String[] args) {
        cut();
        insert();
        insertErrors();
        chapter();
        dropChapter();
        ofChapter();
        chapterAt();
        finish();
    }

    private static void cut() {
        part("Promise 19, cut");
        test("it returns how many frames of all clips were cut: 0 where none is", () -> {
            due(0, empty().cut(0, 600));
            due(0, one().cut(0, 100));
            due(0, one().cut(110, 600));
        });
        test("it counts frames on several tracks for each of them", () -> {
            PodcastEditor x = tone(1);
            for (int track = 0; track < 4; track++) {
                for (int i = 0; i < 3; i++) {
                    x.addClip(track, 200 * i, 0, 0, 200);
                }
            }
            due(4, x.cut(199, 200));
            due(4 * 599, x.cut(0, 600));
            due(0, x.count(1));
        });
        test("a cut of no frames of clips is a change", () -> {
            PodcastEditor x = empty();
            due(0, x.cut(0, 1));
            due(1, x.count(4));
        });
        test("from is 0 at least", () -> {
            due(1, heard(1, 0, 10).cut(0, 1));
            refuses(Edges::busy, BAD, x -> x.cut(-1, 1), x -> x.cut(-1, 600), x -> x.cut(MIN, 1), x -> x.cut(MIN, MAX));
        });
        test("from is less than to", () -> {
            due(1, one().cut(100, 101));
            refuses(Edges::busy, BAD, x -> x.cut(5, 5), x -> x.cut(6, 5), x -> x.cut(0, 0), x -> x.cut(600, 600), x -> x.cut(MAX, MIN),
                x -> x.cut(0, MIN), x -> x.cut(MAX, MAX));
        });
        test("to is at most 600", () -> {
            due(1, heard(1, 599, 1).cut(599, 600));
            refuses(Edges::busy, BAD, x -> x.cut(599, 601), x -> x.cut(0, 601), x -> x.cut(0, MAX), x -> x.cut(600, 601));
        });
        test("FULL if there would be more than 24 clips: 24 are not too many, 25 are", () -> {
            due(1, longest(23).cut(1, 2));
            refuses(() -> longest(24), FULL, x -> x.cut(1, 2));
            due(2, longest(24).cut(0, 2));
        });
        test("FULL counts the clips then, not those before and not those between", () -> {
            PodcastEditor x = spanned();
            due(3, x.cut(1, 3));
            due(24, x.count(1));
            refuses(() -> spanned(), FULL, y -> y.cut(3, 4), y -> y.cut(1, 2));
            PodcastEditor z = spanned();
            due(4 + 2, z.cut(1, 5));
            due(23, z.count(1));
        });
        test("BAD comes before FULL", () -> refuses(() -> longest(24), BAD, x -> x.cut(2, 2), x -> x.cut(-1, 2), x -> x.cut(1, 601)));
        test("a refused cut leaves the chapters where they are", () -> refuses(() -> {
            PodcastEditor x = longest(24);
            x.chapter(1, 1);
            x.chapter(2, 2);
            x.chapter(80, 3);
            return x;
        }, FULL, x -> x.cut(1, 2)));
    }

    /** So many clips, of which the first one has the frames 0 to 2 and the others one frame each, from 4 on. */
    private static PodcastEditor longest(int clips) {
        PodcastEditor x = tone(100);
        x.addClip(0, 0, 0, 0, 3);
        for (int i = 1; i < clips; i++) {
            x.addClip(0, 2 + 2 * i, 0, 0, 1);
        }
        return x;
    }

    /** 23 clips of one frame on track 0, from 2 on, two frames apart, and one on the frames 0 to 9 of track 1. */
    private static PodcastEditor spanned() {
        PodcastEditor x = tone(100);
        for (int i = 0; i < 23; i++) {
            x.addClip(0, 2 + 2 * i, 0, 0, 1);
        }
        x.addClip(1, 0, 0, 0, 10);
        return x;
    }

    private static void insert() {
        part("Promise 20, insert");
        test("it returns the number of clips then: 0, as many, or more", () -> {
            due(0, empty().insert(0, 600));
            due(1, one().insert(0, 1));
            due(2, one().insert(105, 1));
        });
        test("at is from 0 to 599", () -> {
            due(1, one().insert(0, 1));
            due(1, one().insert(599, 1));
            refuses(Edges::busy, BAD, x -> x.insert(-1, 1), x -> x.insert(600, 1), x -> x.insert(MIN, 1), x -> x.insert(MAX, 1));
        });
        test("the length is from 1 to 600", () -> {
            due(0, empty().insert(0, 1));
            due(0, empty().insert(0, 600));
            due(1, one().insert(110, 600));
            refuses(Edges::one, BAD, x -> x.insert(110, 0), x -> x.insert(110, -1), x -> x.insert(110, 601), x -> x.insert(110, MIN),
                x -> x.insert(110, MAX));
        });
        test("BAD if a clip would end behind 600", () -> {
            PodcastEditor x = one();
            due(1, x.insert(0, 490));
            due(600, x.peak(0));
            refuses(Edges::one, BAD, y -> y.insert(0, 491), y -> y.insert(100, 491), y -> y.insert(105, 491), y -> y.insert(109, 491),
                y -> y.insert(0, 600));
            due(2, one().insert(109, 490));
        });
        test("a clip that ends at 600 does not go back by one frame", () -> {
            refuses(() -> heard(1, 590, 10), BAD, x -> x.insert(0, 1), x -> x.insert(590, 1), x -> x.insert(599, 1));
            due(1, heard(1, 589, 10).insert(599, 600));
        });
        test("a clip before that frame does not count, whichever it is", () -> {
            PodcastEditor x = heard(1, 0, 100);
            x.addClip(3, 0, 0, 0, 50);
            due(2, x.insert(100, 600));
            due(3, x.insert(50, 500));
            dueClips(x, 0, 0, 0, 50, 0, 550, 50, 50, 3, 0, 0, 50);
        });
        test("BAD if a chapter would be behind 599", () -> {
            PodcastEditor x = Edges.chapters(2);
            due(0, x.insert(20, 579));
            dueChapters(x, 10, 1, 599, 2);
            refuses(() -> Edges.chapters(2), BAD, y -> y.insert(20, 580), y -> y.insert(0, 580), y -> y.insert(11, 600));
            due(0, Edges.chapters(2).insert(21, 600));
        });
        test("a chapter at 599 does not go back by one frame", () -> {
            refuses(Edges::busy, BAD, x -> x.insert(599, 1), x -> x.insert(0, 1));
            PodcastEditor x = empty();
            x.chapter(599, 1);
            due(BAD, x.insert(599, 1));
            x.dropChapter(0);
            x.chapter(598, 1);
            due(0, x.insert(599, 1));
            due(0, x.insert(598, 1));
            dueChapters(x, 599, 1);
        });
        test("FULL if there would be more than 24 clips: 24 are not too many, 25 are", () -> {
            due(24, crowd(23).insert(1, 1));
            due(24, crowd(24).insert(2, 1));
            due(24, crowd(24).insert(3, 1));
            refuses(() -> crowd(24), FULL, x -> x.insert(1, 1), x -> x.insert(70, 1));
        });
        test("FULL counts a division on each track", () -> refuses(() -> {
            PodcastEditor x = crowd(21);
            for (int track = 1; track < 4; track++) {
                x.addClip(track, 0, 0, 0, 2);
            }
            x.remove(20);
            x.remove(19);
            x.remove(18);
            return x;
        }, FULL, x -> x.insert(1, 1)));
    }

    private static void insertErrors() {
        part("Promise 20, insert");
        test("all 12 chapters go back, and all 24 clips", () -> {
            PodcastEditor x = crowd(24);
            for (int i = 0; i < 12; i++) {
                x.chapter(6 * i, i);
            }
            due(24, x.insert(0, 529));
            for (int i = 0; i < 12; i++) {
                due(529 + 6 * i, x.ofChapter(i, 0));
            }
            for (int i = 0; i < 24; i++) {
                due(529 + 3 * i, x.clip(i, 1));
            }
            due(600, x.peak(0));
        });
        test("BAD comes before FULL", () -> refuses(() -> crowd(24), BAD, x -> x.insert(1, 0), x -> x.insert(1, 530), x -> x.insert(1, 601)));
        test("BAD for a chapter comes before FULL", () -> refuses(() -> {
            PodcastEditor x = crowd(24);
            x.chapter(300, 1);
            return x;
        }, BAD, x -> x.insert(1, 300)));
        test("BAD for a chapter leaves the clips where they are, BAD for a clip the chapters", () -> {
            refuses(() -> {
                PodcastEditor x = heard(1, 0, 10);
                x.chapter(100, 1);
                x.chapter(500, 2);
                return x;
            }, BAD, x -> x.insert(5, 100));
            refuses(() -> {
                PodcastEditor x = heard(1, 500, 10);
                x.chapter(100, 1);
                x.chapter(200, 2);
                return x;
            }, BAD, x -> x.insert(50, 91));
        });
    }

    private static void chapter() {
        part("Promise 21, chapter");
        test("it returns its number: the first, between others, the last", () -> {
            due(0, Edges.chapters(3).chapter(9, 0));
            due(1, Edges.chapters(3).chapter(11, 0));
            due(2, Edges.chapters(3).chapter(29, 0));
            due(3, Edges.chapters(3).chapter(31, 0));
            due(0, empty().chapter(599, 99));
        });
        test("if there is one at this frame, it gets the title, and keeps its number", () -> {
            PodcastEditor x = Edges.chapters(3);
            due(0, x.chapter(10, 99));
            due(2, x.chapter(30, 0));
            dueChapters(x, 10, 99, 20, 2, 30, 0);
        });
        test("the frame is from 0 to 599", () -> {
            due(0, empty().chapter(0, 5));
            due(0, empty().chapter(599, 5));
            refuses(Edges::busy, BAD, x -> x.chapter(-1, 5), x -> x.chapter(600, 5), x -> x.chapter(MIN, 5), x -> x.chapter(MAX, 5));
        });
        test("the title is from 0 to 99", () -> {
            due(0, empty().chapter(5, 0));
            due(0, empty().chapter(5, 99));
            refuses(Edges::busy, BAD, x -> x.chapter(5, -1), x -> x.chapter(5, 100), x -> x.chapter(5, MIN), x -> x.chapter(5, MAX));
        });
        test("FULL if there are 12 other chapters", () -> {
            due(11, Edges.chapters(11).chapter(500, 5));
            due(0, Edges.chapters(11).chapter(0, 5));
            refuses(() -> Edges.chapters(12), FULL, x -> x.chapter(0, 5), x -> x.chapter(15, 5), x -> x.chapter(121, 5));
        });
        test("one of 12 chapters gets its title, the first, another one and the last", () -> {
            PodcastEditor x = Edges.chapters(12);
            due(0, x.chapter(10, 50));
            due(5, x.chapter(60, 51));
            due(11, x.chapter(120, 52));
            due(50 + 51 + 52, x.ofChapter(0, 1) + x.ofChapter(5, 1) + x.ofChapter(11, 1));
            due(12, x.count(2));
        });
        test("BAD comes before FULL", () -> refuses(() -> Edges.chapters(12), BAD, x -> x.chapter(600, 5), x -> x.chapter(5, 100)));
        test("a chapter can be behind the end of all", () -> {
            PodcastEditor x = one();
            due(0, x.chapter(300, 5));
            due(1, x.chapter(599, 5));
        });
    }

    private static void dropChapter() {
        part("Promise 22, dropChapter");
        test("it returns the number of chapters that remain, down to 0", () -> {
            PodcastEditor x = Edges.chapters(12);
            for (int i = 11; i >= 0; i--) {
                due(i, x.dropChapter(i / 2));
            }
            due(NONE, x.dropChapter(0));
        });
        test("the first one, the last one and one between", () -> {
            PodcastEditor x = Edges.chapters(4);
            x.dropChapter(1);
            dueChapters(x, 10, 1, 30, 3, 40, 4);
            x.dropChapter(2);
            dueChapters(x, 10, 1, 30, 3);
            x.dropChapter(0);
            dueChapters(x, 30, 3);
        });
        test("NONE if there is no such chapter", () -> {
            refuses(Edges::busy, NONE, x -> x.dropChapter(-1), x -> x.dropChapter(3), x -> x.dropChapter(MIN), x -> x.dropChapter(MAX));
            refuses(Edges::empty, NONE, x -> x.dropChapter(0));
            refuses(() -> Edges.chapters(12), NONE, x -> x.dropChapter(12));
        });
        test("there is room again behind it", () -> {
            PodcastEditor x = Edges.chapters(12);
            x.dropChapter(0);
            due(11, x.chapter(599, 5));
        });
    }

    private static void ofChapter() {
        part("Promise 23, ofChapter");
        test("the frames up to the next chapter, one at least", () -> {
            PodcastEditor x = empty();
            x.chapter(0, 0);
            x.chapter(1, 0);
            x.chapter(599, 0);
            due(1, x.ofChapter(0, 2));
            due(598, x.ofChapter(1, 2));
        });
        test("for the last one up to the end of all", () -> {
            PodcastEditor x = one();
            x.chapter(50, 1);
            due(60, x.ofChapter(0, 2));
            x.chapter(109, 2);
            due(1, x.ofChapter(1, 2));
        });
        test("for the last one at least 0: at the end of all and behind it", () -> {
            PodcastEditor x = one();
            x.chapter(110, 1);
            due(0, x.ofChapter(0, 2));
            x.chapter(111, 2);
            due(0, x.ofChapter(1, 2));
            x.chapter(599, 3);
            due(0, x.ofChapter(2, 2));
            PodcastEditor y = empty();
            y.chapter(0, 1);
            due(0, y.ofChapter(0, 2));
        });
        test("the next chapter counts also behind the end of all", () -> {
            PodcastEditor x = one();
            x.chapter(100, 1);
            x.chapter(599, 2);
            due(499, x.ofChapter(0, 2));
        });
        test("up to an end of all at 600", () -> {
            PodcastEditor x = heard(5, 599, 1);
            x.chapter(599, 1);
            due(1, x.ofChapter(0, 2));
            due(5, x.ofChapter(0, 3));
            x.chapter(0, 1);
            due(599, x.ofChapter(0, 2));
            due(0, x.ofChapter(0, 3));
        });
        test("the greatest mix in these: its first frame counts, that of the next one does not", () -> {
            PodcastEditor x = ramp();
            x.addClip(0, 0, 0, 0, 100);
            x.setClip(0, 2, 100);
            x.addSource(1, 200, 200, 0);
            x.addClip(1, 0, 1, 0, 100);
            x.setTrack(0, 1, 1);
            x.chapter(10, 1);
            x.chapter(20, 2);
            due(190, x.ofChapter(0, 3));
            due(180, x.ofChapter(1, 3));
            PodcastEditor y = ramp();
            y.addClip(0, 0, 0, 0, 100);
            y.chapter(10, 1);
            y.chapter(20, 2);
            due(19, y.ofChapter(0, 3));
            due(99, y.ofChapter(1, 3));
        });
        test("the greatest mix is 0 where no frames are, and where none is heard", () -> {
            PodcastEditor x = heard(500, 0, 10);
            x.chapter(10, 1);
            due(0, x.ofChapter(0, 3));
            x.chapter(300, 1);
            due(0, x.ofChapter(0, 3));
            due(0, x.ofChapter(1, 3));
        });
        test("the greatest mix is at most 999", () -> {
            PodcastEditor x = heard(999, 0, 10);
            x.set(0, 400);
            x.chapter(0, 1);
            due(999, x.ofChapter(0, 3));
        });
        test("NONE if there is no such chapter", () -> refuses(Edges::busy, NONE, x -> x.ofChapter(-1, 0), x -> x.ofChapter(3, 0),
            x -> x.ofChapter(MIN, 2), x -> x.ofChapter(MAX, 3)));
        test("BAD if there is no such what", () -> refuses(Edges::busy, BAD, x -> x.ofChapter(0, -1), x -> x.ofChapter(2, 4),
            x -> x.ofChapter(0, MIN), x -> x.ofChapter(0, MAX)));
        test("NONE comes before BAD", () -> refuses(Edges::busy, NONE, x -> x.ofChapter(-1, -1), x -> x.ofChapter(3, 4)));
    }

    private static void chapterAt() {
        part("Promise 24, chapterAt");
        test("a frame belongs to the last chapter that is not behind it: its own frame belongs to it", () -> {
            due(0, Edges.chapters(3).chapterAt(10));
            due(0, Edges.chapters(3).chapterAt(19));
            due(1, Edges.chapters(3).chapterAt(20));
            due(2, Edges.chapters(3).chapterAt(30));
            due(2, Edges.chapters(3).chapterAt(599));
        });
        test("NOTHING before the first chapter, and without chapters", () -> {
            dueAll(() -> Edges.chapters(3), NOTHING, x -> x.chapterAt(0), x -> x.chapterAt(9));
            dueAll(Edges::empty, NOTHING, x -> x.chapterAt(0), x -> x.chapterAt(599));
        });
        test("a chapter at frame 0 and one at frame 599", () -> {
            PodcastEditor x = empty();
            x.chapter(0, 1);
            x.chapter(599, 2);
            due(0, x.chapterAt(0));
            due(0, x.chapterAt(598));
            due(1, x.chapterAt(599));
        });
        test("the last of 12", () -> {
            due(11, Edges.chapters(12).chapterAt(120));
            due(10, Edges.chapters(12).chapterAt(119));
        });
        test("NONE if there is no such frame", () -> refuses(Edges::busy, NONE, x -> x.chapterAt(-1), x -> x.chapterAt(600),
            x -> x.chapterAt(MIN), x -> x.chapterAt(MAX)));
        test("NONE comes before NOTHING", () -> refuses(Edges::empty, NONE, x -> x.chapterAt(-1), x -> x.chapterAt(600)));
    }
}
