/** The edges that 'Description' names in Chapters, Parts, Ripples, Silences and Events. */
public final class EditPartsTest extends Edges {
    public static void main(String[] args) {
        chapters();
        parts();
        shortenedFades();
        cuts();
        cutFades();
        cutChapters();
        inserts();
        silences();
        tightened();
        events();
        finish();
    }

    private static void chapters() {
        part("Chapters");
        test("there are at most 12 chapters", () -> {
            due(11, Edges.chapters(11).chapter(599, 0));
            refuses(() -> Edges.chapters(12), FULL, x -> x.chapter(599, 0), x -> x.chapter(0, 0), x -> x.chapter(11, 99));
        });
        test("a title is from 0 to 99", () -> {
            PodcastEditor x = empty();
            x.chapter(0, 0);
            x.chapter(1, 99);
            dueChapters(x, 0, 0, 1, 99);
            refuses(Edges::busy, BAD, y -> y.chapter(9, -1), y -> y.chapter(9, 100), y -> y.chapter(9, MIN), y -> y.chapter(9, MAX));
        });
        test("no two are at the same frame: the second one gives the title", () -> {
            PodcastEditor x = Edges.chapters(3);
            due(1, x.chapter(20, 77));
            dueChapters(x, 10, 1, 20, 77, 30, 3);
        });
        test("they are numbered from 0 in ascending order of their frames", () -> {
            PodcastEditor x = empty();
            due(0, x.chapter(599, 1));
            due(0, x.chapter(0, 2));
            due(1, x.chapter(598, 3));
            due(1, x.chapter(1, 4));
            dueChapters(x, 0, 2, 1, 4, 598, 3, 599, 1);
        });
        test("they are in this order also when there are 12, which came in descending order", () -> {
            PodcastEditor x = empty();
            for (int i = 11; i >= 0; i--) {
                due(0, x.chapter(54 * i, i));
            }
            for (int i = 0; i < 12; i++) {
                due(54 * i, x.ofChapter(i, 0));
                due(i, x.ofChapter(i, 1));
            }
        });
    }

    private static void parts() {
        part("Parts");
        test("the first part keeps the start, the offset, the gain and the fade in, and has the fade out 0", () -> {
            PodcastEditor x = one();
            x.divide(0, 6);
            dueClip(x, 0, 1, 100, 0, 20, 6, 70, 3, 0);
        });
        test("the second part begins with frame k, keeps the gain and the fade out, and has the fade in 0", () -> {
            PodcastEditor x = one();
            x.divide(0, 6);
            dueClip(x, 1, 1, 106, 0, 26, 4, 70, 0, 4);
        });
        test("the least first part is one frame", () -> {
            PodcastEditor x = one();
            due(1, x.divide(0, 1));
            dueClip(x, 0, 1, 100, 0, 20, 1, 70, 1, 0);
            dueClip(x, 1, 1, 101, 0, 21, 9, 70, 0, 4);
        });
        test("the least second part is one frame", () -> {
            PodcastEditor x = one();
            due(1, x.divide(0, 9));
            dueClip(x, 0, 1, 100, 0, 20, 9, 70, 3, 0);
            dueClip(x, 1, 1, 109, 0, 29, 1, 70, 0, 1);
        });
        test("fades that fit exactly stay", () -> {
            PodcastEditor x = one();
            x.divide(0, 3);
            dueClip(x, 0, 1, 100, 0, 20, 3, 70, 3, 0);
            PodcastEditor y = one();
            y.divide(0, 6);
            due(4, y.clip(1, 7));
        });
        test("fades that are longer than their part are shortened to it", () -> {
            PodcastEditor x = one();
            x.divide(0, 2);
            dueClip(x, 0, 1, 100, 0, 20, 2, 70, 2, 0);
            PodcastEditor y = one();
            y.divide(0, 7);
            dueClip(y, 1, 1, 107, 0, 27, 3, 70, 0, 3);
        });
    }

    private static void shortenedFades() {
        part("Parts");
        test("fades that are together as long as the clip are not shortened", () -> {
            PodcastEditor x = one();
            x.trim(0, 1, 3);
            dueClip(x, 0, 1, 100, 0, 20, 7, 70, 3, 4);
        });
        test("the fade out is shortened first", () -> {
            PodcastEditor x = one();
            x.trim(0, 1, 4);
            dueClip(x, 0, 1, 100, 0, 20, 6, 70, 3, 3);
        });
        test("the fade out is shortened down to 0, the fade in stays", () -> {
            PodcastEditor x = one();
            x.trim(0, 0, 7);
            dueClip(x, 0, 1, 107, 0, 27, 3, 70, 3, 0);
        });
        test("then the fade in is shortened", () -> {
            PodcastEditor x = one();
            x.trim(0, 0, 8);
            dueClip(x, 0, 1, 108, 0, 28, 2, 70, 2, 0);
        });
        test("in a clip of one frame a fade in of 1 stays", () -> {
            PodcastEditor x = one();
            x.trim(0, 1, 9);
            dueClip(x, 0, 1, 100, 0, 20, 1, 70, 1, 0);
        });
        test("a fade that was shortened does not grow again", () -> {
            PodcastEditor x = one();
            x.trim(0, 1, 9);
            x.trim(0, 1, -9);
            dueClip(x, 0, 1, 100, 0, 20, 10, 70, 1, 0);
        });
        test("a fade out alone is shortened to the length", () -> {
            PodcastEditor x = one();
            x.setClip(0, 1, 0);
            x.trim(0, 1, 7);
            dueClip(x, 0, 1, 100, 0, 20, 3, 70, 0, 3);
        });
    }

    /** Track 1 is heard on the frames 100 to 109. */
    private static void dueCut(int from, int to, int lost, int... clips) {
        PodcastEditor x = one();
        due(lost, x.cut(from, to));
        dueClips(x, clips);
    }

    private static void cuts() {
        part("Ripples");
        test("the frame from is cut, the frame to is not", () -> dueCut(103, 105, 2, 1, 100, 20, 3, 1, 103, 25, 5));
        test("one frame can be cut", () -> dueCut(103, 104, 1, 1, 100, 20, 3, 1, 103, 24, 6));
        test("a clip with frames before and behind becomes two clips", () -> {
            dueCut(101, 109, 8, 1, 100, 20, 1, 1, 101, 29, 1);
            dueCut(101, 102, 1, 1, 100, 20, 1, 1, 101, 22, 8);
        });
        test("a clip without frames before stays one clip", () -> {
            dueCut(100, 104, 4, 1, 100, 24, 6);
            dueCut(99, 104, 4, 1, 99, 24, 6);
            dueCut(0, 109, 9, 1, 0, 29, 1);
        });
        test("a clip without frames behind stays one clip", () -> {
            dueCut(104, 110, 6, 1, 100, 20, 4);
            dueCut(104, 111, 6, 1, 100, 20, 4);
            dueCut(101, 600, 9, 1, 100, 20, 1);
        });
        test("a clip with all frames in the cut is no more", () -> {
            dueCut(100, 110, 10);
            dueCut(99, 111, 10);
            dueCut(0, 600, 10);
        });
        test("a clip just before the cut stays as it is", () -> dueCut(110, 120, 0, 1, 100, 20, 10));
        test("a clip just behind the cut comes forward by its length", () -> dueCut(90, 100, 0, 1, 90, 20, 10));
        test("frames behind the cut come forward, up to frame 0", () -> dueCut(0, 100, 0, 1, 0, 20, 10));
        test("clips of all tracks are cut, each one that is there", () -> {
            PodcastEditor x = tone(1);
            for (int track = 0; track < 4; track++) {
                x.addClip(track, 10 * track, 0, 0, 20);
            }
            due(15 + 15 + 5, x.cut(5, 25));
            dueClips(x, 0, 0, 0, 5, 1, 5, 15, 5, 2, 5, 5, 15, 3, 10, 0, 20);
        });
        test("24 clips can stay 24, and 12 can become 24", () -> {
            PodcastEditor x = crowd(24);
            due(2, x.cut(1, 4));
            due(24, x.count(1));
            PodcastEditor y = tone(1);
            for (int i = 0; i < 24; i++) {
                y.addClip(i / 6, 20 * (i % 6), 0, 0, 20);
            }
            due(4 * 20, y.cut(10, 30));
            due(24, y.count(1));
        });
        test("what would be a 25th clip is refused", () -> {
            PodcastEditor x = crowd(23);
            x.trim(22, 1, -1);
            due(1, x.cut(67, 68));
            due(24, x.count(1));
            refuses(() -> crowdAndOne(), FULL, y -> y.cut(70, 71));
        });
        test("a clip that is divided at both ends of a cut, when there are 24, is no 25th if another one goes", () -> {
            PodcastEditor x = crowdAndOne();
            due(2 + 1, x.cut(66, 70));
            due(23, x.count(1));
        });
    }

    /** 24 clips, of which the last one has the frames 69 to 71. */
    private static PodcastEditor crowdAndOne() {
        PodcastEditor x = crowd(24);
        x.trim(23, 1, -1);
        return x;
    }

    private static void cutFades() {
        part("Ripples");
        test("a clip is cut as if it were divided where the cut begins and ends", () -> {
            PodcastEditor x = one();
            x.cut(103, 106);
            dueClip(x, 0, 1, 100, 0, 20, 3, 70, 3, 0);
            dueClip(x, 1, 1, 103, 0, 26, 4, 70, 0, 4);
        });
        test("fades are shortened in both parts", () -> {
            PodcastEditor x = one();
            x.cut(102, 107);
            dueClip(x, 0, 1, 100, 0, 20, 2, 70, 2, 0);
            dueClip(x, 1, 1, 102, 0, 27, 3, 70, 0, 3);
        });
        test("the part that stays when the end is cut has the fade out 0", () -> {
            PodcastEditor x = one();
            x.cut(109, 110);
            dueClip(x, 0, 1, 100, 0, 20, 9, 70, 3, 0);
        });
        test("a clip that is not touched keeps its fades, also just before and just behind the cut", () -> {
            PodcastEditor x = one();
            x.cut(110, 600);
            dueClip(x, 0, 1, 100, 0, 20, 10, 70, 3, 4);
            x.cut(0, 100);
            dueClip(x, 0, 1, 0, 0, 20, 10, 70, 3, 4);
        });
        part("In doubt");
        test("the part of a clip that stays when its beginning is cut has the fade in 0", () -> {
            PodcastEditor x = one();
            x.cut(100, 101);
            dueClip(x, 0, 1, 100, 0, 21, 9, 70, 0, 4);
            PodcastEditor y = one();
            y.cut(50, 101);
            dueClip(y, 0, 1, 50, 0, 21, 9, 70, 0, 4);
        });
    }

    private static void cutChapters() {
        part("Ripples");
        test("chapters behind the cut come forward by its length", () -> {
            PodcastEditor x = Edges.chapters(3);
            x.cut(0, 5);
            dueChapters(x, 5, 1, 15, 2, 25, 3);
        });
        test("chapters before the cut stay, also just before it", () -> {
            PodcastEditor x = Edges.chapters(3);
            x.cut(11, 20);
            dueChapters(x, 10, 1, 11, 2, 21, 3);
            PodcastEditor y = Edges.chapters(3);
            y.cut(31, 600);
            dueChapters(y, 10, 1, 20, 2, 30, 3);
        });
        test("chapters in the cut come to its first frame, from that one itself up to the last one", () -> {
            PodcastEditor x = Edges.chapters(1);
            x.cut(10, 11);
            dueChapters(x, 10, 1);
            PodcastEditor y = Edges.chapters(1);
            y.cut(1, 11);
            dueChapters(y, 1, 1);
            PodcastEditor z = Edges.chapters(1);
            z.cut(0, 600);
            dueChapters(z, 0, 1);
        });
        test("of several chapters at the same frame then, only the one that came first before stays", () -> {
            PodcastEditor x = Edges.chapters(4);
            x.cut(15, 35);
            dueChapters(x, 10, 1, 15, 2, 20, 4);
            PodcastEditor y = Edges.chapters(12);
            y.cut(0, 600);
            dueChapters(y, 0, 1);
        });
        part("In doubt");
        test("one in the cut and one at its first frame come to the same frame", () -> {
            PodcastEditor x = Edges.chapters(3);
            x.cut(10, 25);
            dueChapters(x, 10, 1, 15, 3);
        });
        test("one in the cut and one just behind it come to the same frame", () -> {
            PodcastEditor x = Edges.chapters(3);
            x.cut(15, 30);
            dueChapters(x, 10, 1, 15, 2);
        });
        test("one at its first frame and one just behind it come to the same frame", () -> {
            PodcastEditor x = Edges.chapters(3);
            x.cut(10, 20);
            dueChapters(x, 10, 1, 20, 3);
        });
        test("all three come to the same frame", () -> {
            PodcastEditor x = Edges.chapters(3);
            x.cut(10, 30);
            dueChapters(x, 10, 1);
        });
        test("one just behind the cut alone comes to its first frame", () -> {
            PodcastEditor x = Edges.chapters(2);
            x.cut(12, 20);
            dueChapters(x, 10, 1, 12, 2);
        });
    }

    private static void inserts() {
        part("Ripples");
        test("a clip with frames before and from that frame on is divided there", () -> {
            PodcastEditor x = one();
            due(2, x.insert(106, 50));
            dueClip(x, 0, 1, 100, 0, 20, 6, 70, 3, 0);
            dueClip(x, 1, 1, 156, 0, 26, 4, 70, 0, 4);
        });
        test("a clip that begins at that frame is not divided, and goes back", () -> {
            PodcastEditor x = one();
            due(1, x.insert(100, 50));
            dueClip(x, 0, 1, 150, 0, 20, 10, 70, 3, 4);
        });
        test("a clip that ends before that frame stays", () -> {
            PodcastEditor x = one();
            due(1, x.insert(110, 50));
            dueClip(x, 0, 1, 100, 0, 20, 10, 70, 3, 4);
        });
        test("the parts can be one frame long", () -> {
            PodcastEditor x = one();
            x.insert(101, 1);
            dueClips(x, 1, 100, 20, 1, 1, 102, 21, 9);
            PodcastEditor y = one();
            y.insert(109, 1);
            dueClips(y, 1, 100, 20, 9, 1, 110, 29, 1);
        });
        test("a chapter at that frame goes back, one before it stays", () -> {
            PodcastEditor x = Edges.chapters(3);
            x.insert(20, 7);
            dueChapters(x, 10, 1, 27, 2, 37, 3);
            PodcastEditor y = Edges.chapters(3);
            y.insert(21, 7);
            dueChapters(y, 10, 1, 20, 2, 37, 3);
        });
        test("all goes back from frame 0 on", () -> {
            PodcastEditor x = heard(1, 0, 10);
            x.chapter(0, 5);
            due(1, x.insert(0, 590));
            dueClips(x, 0, 590, 0, 10);
            dueChapters(x, 590, 5);
        });
        test("clips on all tracks are divided and go back", () -> {
            PodcastEditor x = tone(1);
            for (int track = 0; track < 4; track++) {
                x.addClip(track, 10 * track, 0, 0, 20);
            }
            due(5, x.insert(20, 5));
            dueClips(x, 0, 0, 0, 20, 1, 10, 0, 10, 1, 25, 10, 10, 2, 25, 0, 20, 3, 35, 0, 20);
        });
    }

    /** Heard on the frames 5 to 9, 12 and 20 to 29, and there is a silent clip up to frame 34. */
    private static PodcastEditor gaps() {
        PodcastEditor x = tone(100);
        x.addClip(0, 5, 0, 0, 5);
        x.addClip(0, 12, 0, 0, 1);
        x.addClip(0, 20, 0, 0, 10);
        x.addClip(0, 30, 0, 0, 5);
        x.setClip(3, 0, 0);
        return x;
    }

    private static void dueSilences(PodcastEditor x, int v, int n, int... numbers) {
        due(numbers.length / 2, x.silence(v, n, -1, 0));
        for (int i = 0; i < numbers.length; i++) {
            due(numbers[i], x.silence(v, n, i / 2, i % 2));
        }
        due(NONE, x.silence(v, n, numbers.length / 2, 0));
    }

    private static void silences() {
        part("Silences");
        test("silences are as long as possible, from frame 0 up to the end of all", () ->
            dueSilences(gaps(), 100, 1, 0, 5, 10, 2, 13, 7, 30, 5));
        test("the mix is less than v: equal is no silence", () -> {
            dueSilences(gaps(), 1, 1, 0, 5, 10, 2, 13, 7, 30, 5);
            dueSilences(gaps(), 101, 1, 0, 35);
        });
        test("a silence has at least n frames: n are enough, n - 1 are not", () -> {
            dueSilences(gaps(), 100, 2, 0, 5, 10, 2, 13, 7, 30, 5);
            dueSilences(gaps(), 100, 3, 0, 5, 13, 7, 30, 5);
            dueSilences(gaps(), 100, 5, 0, 5, 13, 7, 30, 5);
            dueSilences(gaps(), 100, 6, 13, 7);
            dueSilences(gaps(), 100, 7, 13, 7);
            dueSilences(gaps(), 100, 8);
        });
        test("no frame behind the end of all belongs to a silence", () -> {
            PodcastEditor x = gaps();
            x.remove(3);
            dueSilences(x, 100, 1, 0, 5, 10, 2, 13, 7);
        });
        test("there is none without frames", () -> dueSilences(tone(1), 999, 1));
        test("there is none where all is loud", () -> dueSilences(heard(999, 0, 200), 999, 1));
        test("one silence can be all 600 frames", () -> dueSilences(heard(0, 599, 1), 1, 600, 0, 600));
        test("there can be 300 silences", () -> {
            PodcastEditor x = empty();
            x.addSource(2, 200, 9, 1);
            for (int i = 0; i < 3; i++) {
                x.addClip(0, 200 * i, 0, 0, 200);
            }
            due(300, x.silence(9, 1, -1, 0));
            due(1, x.silence(9, 1, 0, 0));
            due(599, x.silence(9, 1, 299, 0));
            due(1, x.silence(9, 1, 299, 1));
            due(NONE, x.silence(9, 1, 300, 0));
        });
    }

    private static void tightened() {
        part("Silences");
        test("of each silence all frames but its first n are cut", () -> {
            PodcastEditor x = gaps();
            due(3 + 0 + 5 + 3, x.tighten(100, 2));
            dueClips(x, 0, 2, 0, 5, 0, 9, 0, 1, 0, 12, 0, 10, 0, 22, 0, 2);
        });
        test("one of exactly n frames stays as it is", () -> {
            PodcastEditor x = gaps();
            due(0, x.tighten(100, 7));
            dueClips(x, 0, 5, 0, 5, 0, 12, 0, 1, 0, 20, 0, 10, 0, 30, 0, 5);
            due(1, x.tighten(100, 6));
            dueClips(x, 0, 5, 0, 5, 0, 12, 0, 1, 0, 19, 0, 10, 0, 29, 0, 5);
        });
        test("the silences are found before the first cut, not anew", () -> {
            PodcastEditor x = heard(100, 2, 8);
            x.addClip(1, 10, 0, 0, 10);
            x.setTrack(1, 3, 0);
            x.setTrack(1, 5, 100);
            x.setTrack(1, 6, 3);
            dueSilences(x, 100, 1, 0, 2, 10, 3);
            due(1 + 2, x.tighten(100, 1));
            dueClips(x, 0, 1, 0, 8, 1, 9, 0, 1, 1, 10, 3, 7);
        });
        test("they are cut from the last one to the first one: where it is full, the first ones count no more", () -> {
            PodcastEditor x = tone(100);
            for (int i = 0; i < 12; i++) {
                x.addClip(0, 5 * i, 0, 0, 2);
            }
            for (int i = 0; i < 11; i++) {
                x.addClip(1, 200 + 2 * i, 0, 0, 1);
                x.setClip(12 + i, 0, 0);
            }
            due(23, x.count(1));
            x.addClip(1, 0, 0, 0, 60);
            x.setTrack(1, 1, 1);
            due(163 + 11 * 2, x.tighten(50, 1));
            due(24, x.count(1));
        });
        test("a chapter in a silence comes to the frame behind its first n", () -> {
            PodcastEditor x = gaps();
            x.chapter(16, 1);
            x.chapter(20, 2);
            x.tighten(100, 6);
            dueChapters(x, 16, 1, 19, 2);
            x.tighten(100, 2);
            dueChapters(x, 12, 1);
        });
    }

    private static void dueEvents(PodcastEditor x, int... numbers) {
        due(numbers.length / 3, x.count(3));
        for (int i = 0; i < numbers.length; i++) {
            due(numbers[i], x.event(i / 3, i % 3));
        }
        due(NONE, x.event(numbers.length / 3, 0));
    }

    private static void events() {
        part("Events");
        test("without clips and chapters there is none", () -> dueEvents(tone(1)));
        test("they are in ascending order of their frames", () -> {
            PodcastEditor x = heard(1, 10, 5);
            x.chapter(3, 70);
            x.chapter(12, 71);
            dueEvents(x, 3, 1, 70, 10, 2, 0, 12, 1, 71, 15, 0, 0);
        });
        test("at the same frame ends come before chapters, and chapters before starts", () -> {
            PodcastEditor x = heard(1, 10, 5);
            x.addClip(0, 15, 0, 0, 5);
            x.chapter(15, 99);
            dueEvents(x, 10, 2, 0, 15, 0, 0, 15, 1, 99, 15, 2, 0, 20, 0, 0);
        });
        test("an end comes before a start of a lower track", () -> {
            PodcastEditor x = heard(1, 15, 5);
            x.addClip(3, 10, 0, 0, 5);
            dueEvents(x, 10, 2, 3, 15, 0, 3, 15, 2, 0, 20, 0, 0);
        });
        test("at the same frame and of the same kind they are in the order of their tracks", () -> {
            PodcastEditor x = tone(1);
            for (int track = 3; track >= 0; track--) {
                x.addClip(track, 0, 0, 0, 600 / 3);
            }
            dueEvents(x, 0, 2, 0, 0, 2, 1, 0, 2, 2, 0, 2, 3, 200, 0, 0, 200, 0, 1, 200, 0, 2, 200, 0, 3);
        });
        test("a chapter at frame 0 and one at frame 599 are events", () -> {
            PodcastEditor x = heard(1, 0, 1);
            x.chapter(0, 0);
            x.chapter(599, 99);
            dueEvents(x, 0, 1, 0, 0, 2, 0, 1, 0, 0, 599, 1, 99);
        });
        test("there can be 24 starts, 24 ends and 12 chapters", () -> {
            PodcastEditor x = crowd(24);
            for (int i = 0; i < 12; i++) {
                x.chapter(6 * i, i);
            }
            due(60, x.count(3));
            due(0, x.event(0, 0));
            due(1, x.event(0, 1));
            due(71, x.event(59, 0));
            due(0, x.event(59, 1));
            due(NONE, x.event(60, 0));
        });
        part("In doubt");
        test("ends of clips at 600 are events at the frame 600", () -> {
            PodcastEditor x = heard(1, 590, 10);
            x.addClip(1, 599, 0, 0, 1);
            dueEvents(x, 590, 2, 0, 599, 2, 1, 600, 0, 0, 600, 0, 1);
        });
    }
}
