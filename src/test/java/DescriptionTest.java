import java.io.IOException;
import java.nio.file.Files;
import java.nio.file.Path;
import java.util.List;

/**
 * 'What it is' and 'Description' from the first sentence to the last one, each quoted as it stands in the document,
 * with a test that fails if it is broken. The quotes together are compared with the document, so that none is left out.
 */
public final class DescriptionTest extends Edges {
    private static final Path DOCUMENT = Path.of("../shared/DOC.md");
    private static final StringBuilder QUOTED = new StringBuilder();

    public static void main(String[] args) throws IOException {
        whatItIs();
        frames();
        sources();
        sourceKinds();
        clips();
        clipNumbers();
        fades();
        shapes();
        tracks();
        ducks();
        mix();
        windows();
        loudness();
        chapters();
        parts();
        cuts();
        insertions();
        silences();
        events();
        commands();
        numbers();
        changes();
        steps();
        inDoubtOfSound();
        inDoubtOfEdits();
        errors();
        snapshots();
        constants();
        document();
        finish();
    }

    private static void heading(String name) {
        part(name);
        quote(name + ".");
    }

    private static void quote(String words) {
        QUOTED.append(QUOTED.length() == 0 ? "" : " ").append(words);
    }

    private static void says(String sentence, Runnable body) {
        quote(sentence);
        test(sentence, body);
    }

    /** The document's words without the face, the titles and the marks of lists. */
    private static String words(String document) {
        int what = document.indexOf("## What it is");
        int face = document.indexOf("## The public face");
        int description = document.indexOf("## Description");
        int methods = document.indexOf("The constructor and the methods follow");
        if (what < 0 || face < what || description < face || methods < description) {
            return "";
        }
        return (document.substring(what, face) + document.substring(description, methods))
            .replaceAll("(?m)^## .*$", "").replaceAll("(?m)^- ", "").replace("`", "").replaceAll("\\s+", " ").trim();
    }

    private static void document() throws IOException {
        if (!Files.exists(DOCUMENT)) {
            System.out.println("there is no " + DOCUMENT + " to compare the quotes with");
            return;
        }
        String words = words(Files.readString(DOCUMENT));
        String quotes = QUOTED.toString();
        part("The document");
        test("each of its sentences has a test here, and none is left out", () -> {
            int at = 0;
            while (at < Math.min(words.length(), quotes.length()) && words.charAt(at) == quotes.charAt(at)) {
                at++;
            }
            if (!words.equals(quotes)) {
                System.out.println("the document goes on: " + words.substring(at, Math.min(words.length(), at + 60)));
                System.out.println("the tests go on: " + quotes.substring(at, Math.min(quotes.length(), at + 60)));
            }
            due(1, words.equals(quotes) ? 1 : 0);
        });
    }

    /** The clip's values on track 0 from a frame on. */
    private static void dueValues(PodcastEditor x, int from, int... values) {
        for (int i = 0; i < values.length; i++) {
            due(values[i], x.value(0, from + i, 0));
        }
    }

    /** Whether a track is ducked, audible and so on, for each of four tracks. */
    private static void dueAudible(PodcastEditor x, int... audible) {
        for (int i = 0; i < audible.length; i++) {
            due(audible[i], x.track(i, 7));
        }
    }

    /** The frame, the kind and the track or title of each event. */
    private static void dueEvents(PodcastEditor x, int... numbers) {
        due(numbers.length / 3, x.count(3));
        for (int i = 0; i < numbers.length; i++) {
            due(numbers[i], x.event(i / 3, i % 3));
        }
    }

    /** The levels of all windows. */
    private static void dueLevels(PodcastEditor x, int... levels) {
        due(levels.length, x.loudness(0));
        for (int k = 0; k < levels.length; k++) {
            due(levels[k], x.level(k));
        }
        due(NONE, x.level(levels.length));
    }

    /** The first frame and the length of each silence. */
    private static void dueSilences(PodcastEditor x, int v, int n, int... numbers) {
        due(numbers.length / 2, x.silence(v, n, -1, 0));
        for (int i = 0; i < numbers.length; i++) {
            due(numbers[i], x.silence(v, n, i / 2, i % 2));
        }
    }

    /** A setting or a number of a track is this at first, and takes its least and greatest value and none beside. */
    private static void dueRange(Ask now, int atFirst, Ask least, Ask below, Ask greatest, Ask above) {
        due(atFirst, now.of(empty()));
        due(atFirst, least.of(empty()));
        due(atFirst, greatest.of(empty()));
        refuses(Edges::empty, BAD, below, above);
    }

    private static void dueSetting(int what, int atFirst, int least, int greatest) {
        dueRange(x -> x.count(8 + what), atFirst, x -> x.set(what, least), x -> x.set(what, least - 1), x -> x.set(what, greatest),
            x -> x.set(what, greatest + 1));
    }

    private static void dueTrackNumber(int what, int atFirst, int least, int greatest) {
        for (int t = 0; t < 4; t++) {
            int track = t;
            dueRange(x -> x.track(track, what), atFirst, x -> x.setTrack(track, what, least), x -> x.setTrack(track, what, least - 1),
                x -> x.setTrack(track, what, greatest), x -> x.setTrack(track, what, greatest + 1));
        }
    }

    private static void whatItIs() {
        part("What it is");
        says("An editor for a podcast: sources of sound, clips with fades on tracks, tracks that are ducked by others, a mix with a limit,"
            + " loudness by windows and gates, chapters that move with cuts, events in their order, a text of commands, undo and redo by"
            + " groups, and a snapshot.", () -> {
                PodcastEditor x = ramp();
                due(0, x.addClip(0, 0, 0, 100, 20));
                due(0, x.setClip(0, 1, 3));
                due(NOTHING, x.setTrack(0, 3, 1));
                due(100, x.setTrack(0, 4, 0));
                due(25, x.value(0, 0, 1));
                due(12, x.mix(0));
                due(2, x.loudness(0));
                due(0, x.chapter(10, 7));
                due(5, x.cut(0, 5));
                due(5, x.event(1, 0));
                due(1, x.event(1, 1));
                due(1, x.save());
                due(1, run(x, "d0"));
                due(7, x.undo());
                due(0, x.redo());
                due(1, x.restore());
            });
        says("All numbers are integers, and all divisions are rounded down, which matters only for numbers that are not negative,"
            + " if nothing else is said.", () -> {
                PodcastEditor x = heard(7, 0, 3);
                x.setClip(0, 0, 50);
                due(3, x.value(0, 0, 0));
                x.setTrack(0, 0, 50);
                due(1, x.value(0, 0, 1));
                x.set(0, 250);
                due(2, x.mix(0));
                x.set(1, 7);
                due(1, x.level(0));
            });
        says("An object is used for at most 512 calls after it has been made; what later calls answer is free.", () -> {
            PodcastEditor x = empty();
            x.addSource(0, 200, 100, 0);
            x.addClip(0, 0, 0, 0, 200);
            x.begin();
            for (int call = 4; call <= 508; call++) {
                due(call == 4 ? 100 : call % 200, x.setClip(0, 0, (call + 1) % 200));
            }
            due(505, x.end());
            due(2, x.undo());
            due(0, x.redo());
            due(109, x.clip(0, 5));
        });
    }

    private static void frames() {
        heading("Frames");
        says("The frames are numbered from 0 to 599.", () -> {
            dueAll(() -> heard(7, 0, 1), 7, x -> x.mix(0), x -> x.value(0, 0, 2));
            dueAll(() -> heard(7, 599, 1), 7, x -> x.mix(599), x -> x.value(0, 599, 2));
            dueAll(Edges::empty, 0, x -> x.chapter(0, 5), x -> x.chapter(599, 5), x -> x.insert(599, 1));
            dueAll(Edges::empty, NONE, x -> x.mix(-1), x -> x.mix(600), x -> x.clipAt(0, -1), x -> x.clipAt(0, 600),
                x -> x.explain(0, -1), x -> x.explain(0, 600), x -> x.value(0, -1, 0), x -> x.value(0, 600, 0),
                x -> x.chapterAt(-1), x -> x.chapterAt(600));
            dueAll(Edges::empty, BAD, x -> x.chapter(-1, 5), x -> x.chapter(600, 5), x -> x.insert(-1, 1), x -> x.insert(600, 1));
        });
        says("A value is a number from 0 to 999.", () -> {
            dueAll(Edges::empty, 0, x -> x.addSource(0, 1, 0, 0), x -> x.addSource(0, 1, 999, 0), x -> x.silence(999, 1, -1, 0));
            dueAll(Edges::empty, BAD, x -> x.addSource(0, 1, -1, 0), x -> x.addSource(0, 1, 1000, 0), x -> x.silence(1000, 1, -1, 0));
            PodcastEditor x = heard(999, 0, 1);
            x.setClip(0, 0, 200);
            due(999, x.value(0, 0, 0));
            due(999, x.mix(0));
            due(0, x.mix(1));
        });
    }

    private static void sources() {
        heading("Sources");
        says("There are at most 6 sources, numbered from 0 in the order in which they were added.", () -> {
            PodcastEditor x = empty();
            for (int i = 0; i < 6; i++) {
                due(i, x.addSource(0, 10 - i, 500 - i, 0));
            }
            due(FULL, x.addSource(0, 10, 500, 0));
            due(6, x.count(0));
            for (int i = 0; i < 6; i++) {
                due(10 - i, x.source(i, 1));
                due(500 - i, x.sourceValue(i, 0));
            }
            due(NONE, x.source(6, 1));
        });
        says("A source has a kind, a length from 1 to 200, and two numbers a, from 0 to 999, and b.", () -> {
            PodcastEditor x = empty();
            x.addSource(2, 150, 800, 9);
            int[] numbers = {2, 150, 800, 9};
            for (int what = 0; what < 4; what++) {
                due(numbers[what], x.source(0, what));
            }
            dueAll(Edges::empty, 0, y -> y.addSource(1, 1, 0, 5), y -> y.addSource(1, 200, 999, 5));
            refuses(Edges::empty, BAD, y -> y.addSource(1, 0, 0, 5), y -> y.addSource(1, 201, 999, 5), y -> y.addSource(1, 1, -1, 5),
                y -> y.addSource(1, 1, 1000, 5), y -> y.addSource(-1, 1, 0, 5), y -> y.addSource(4, 1, 0, 5));
        });
    }

    private static void dueSource(int kind, int a, int b, int... values) {
        PodcastEditor x = empty();
        due(0, x.addSource(kind, values.length, a, b));
        for (int i = 0; i < values.length; i++) {
            due(values[i], x.sourceValue(0, i));
        }
        due(NONE, x.sourceValue(0, values.length));
    }

    /** A noise, with no number that overflows. */
    private static int[] noise(int length, int a, int b) {
        int[] values = new int[length];
        long z = b;
        for (int i = 0; i < length; i++) {
            z = (z * 1103515245L + 12345L) % (1L << 32);
            values[i] = (int) (z / 65536 % (a + 1));
        }
        return values;
    }

    private static void sourceKinds() {
        says("Its values for its frames i, from 0 on, are: kind 0, a tone, b is 0: always a.", () -> {
            dueSource(0, 321, 0, 321, 321, 321, 321);
            refuses(Edges::empty, BAD, x -> x.addSource(0, 5, 5, -1), x -> x.addSource(0, 5, 5, 1));
        });
        says("Kind 1, a ramp, b from 0 to 999: a plus the quotient of (b - a) * i and the length, rounded toward 0.", () -> {
            dueSource(1, 10, 20, 10, 13, 16);
            dueSource(1, 20, 10, 20, 17, 14);
            dueSource(1, 0, 999, 0, 499);
            dueSource(1, 999, 0, 999, 500);
            refuses(Edges::empty, BAD, x -> x.addSource(1, 5, 5, -1), x -> x.addSource(1, 5, 5, 1000));
        });
        says("Kind 2, a pulse, b from 1 to 99: a if the quotient of i and b is even, otherwise 0.", () -> {
            dueSource(2, 9, 1, 9, 0, 9, 0);
            dueSource(2, 9, 2, 9, 9, 0, 0, 9, 9, 0);
            dueSource(2, 8, 99, 8, 8, 8);
            refuses(Edges::empty, BAD, x -> x.addSource(2, 5, 5, 0), x -> x.addSource(2, 5, 5, 100));
        });
        says("Kind 3, a noise, b from 0 to 999: an int z is b at first;", () -> {
            dueSource(3, 999, 7, 332);
            dueSource(3, 500, 0, noise(3, 500, 0));
            dueSource(3, 500, 999, noise(3, 500, 999));
            refuses(Edges::empty, BAD, x -> x.addSource(3, 5, 5, -1), x -> x.addSource(3, 5, 5, 1000));
        });
        says("for each frame, z becomes z * 1103515245 + 12345, with overflow, and the value is (z >>> 16) % (a + 1).", () -> {
            dueSource(3, 999, 7, noise(200, 999, 7));
            dueSource(3, 1, 8, noise(200, 1, 8));
            dueSource(3, 0, 9, noise(20, 0, 9));
        });
    }

    /** 24 clips, of which one is over all the others. */
    private static PodcastEditor long24() {
        PodcastEditor x = crowd(23);
        x.addClip(3, 0, 0, 0, 69);
        return x;
    }

    private static void clips() {
        heading("Clips");
        says("There are 4 tracks, numbered from 0, and at most 24 clips.", () -> {
            dueAll(() -> tone(9), 0, x -> x.addClip(0, 0, 0, 0, 1), x -> x.addClip(3, 0, 0, 0, 1), x -> x.track(0, 8), x -> x.track(3, 8));
            dueAll(() -> tone(9), NONE, x -> x.addClip(-1, 0, 0, 0, 1), x -> x.addClip(4, 0, 0, 0, 1), x -> x.track(4, 8));
            due(23, crowd(23).addClip(0, 300, 0, 0, 1));
            refuses(() -> crowd(24), FULL, x -> x.addClip(0, 300, 0, 0, 1), x -> x.copyClip(0, 1, 0), x -> x.divide(0, 1), x -> x.insert(1, 1));
            dueAll(() -> crowd(23), 24, x -> x.insert(1, 1));
            refuses(DescriptionTest::long24, FULL, x -> x.cut(5, 6), x -> x.cut(6, 7));
            due(4, long24().cut(6, 8));
        });
        says("A clip is on a track, has a start, a length of at least 1, a source, and an offset in it, so that it has the values of the"
            + " frames of the source from the offset on, as many as the length says; all of these frames exist.", () -> {
                PodcastEditor x = empty();
                x.addSource(0, 5, 1, 0);
                x.addSource(1, 100, 0, 100);
                due(0, x.addClip(0, 50, 1, 97, 3));
                dueClip(x, 0, 0, 50, 1, 97, 3);
                dueValues(x, 49, 0, 97, 98, 99, 0);
                due(BAD, x.addClip(1, 0, 1, 98, 3));
                due(BAD, x.addClip(1, 0, 1, 100, 1));
                due(BAD, x.addClip(1, 0, 1, -1, 3));
                due(BAD, x.addClip(1, 0, 1, 0, 0));
                due(1, x.addClip(1, 0, 1, 99, 1));
                due(2, x.addClip(2, 0, 1, 0, 100));
                due(0, x.clipAt(0, 50));
                due(NOTHING, x.clipAt(3, 50));
                due(1, x.clipAt(1, 0));
            });
        says("It ends behind its last frame, at 600 at the latest.", () -> {
            dueAll(() -> tone(9), 0, x -> x.addClip(0, 590, 0, 0, 10), x -> x.addClip(0, 599, 0, 0, 1));
            dueAll(() -> tone(9), BAD, x -> x.addClip(0, 591, 0, 0, 10), x -> x.addClip(0, 600, 0, 0, 1));
            due(600, heard(9, 590, 10).peak(0));
            due(595, heard(9, 590, 5).event(1, 0));
            dueAll(() -> heard(9, 590, 10), 0, x -> x.clipAt(0, 590), x -> x.clipAt(0, 599));
            dueAll(() -> heard(9, 580, 10), NOTHING, x -> x.clipAt(0, 579), x -> x.clipAt(0, 590));
            dueAll(Edges::one, BAD, x -> x.moveClip(0, 0, 591), x -> x.copyClip(0, 0, 591), x -> x.insert(105, 491));
            dueAll(Edges::one, 0, x -> x.moveClip(0, 0, 590), x -> x.copyClip(0, 0, 590));
            due(2, one().insert(105, 490));
        });
        says("Two clips on the same track have no frame in common.", () -> {
            dueAll(() -> heard(9, 50, 10), OVERLAP, x -> x.addClip(0, 45, 0, 0, 6), x -> x.addClip(0, 59, 0, 0, 6),
                x -> x.addClip(0, 52, 0, 0, 2), x -> x.addClip(0, 45, 0, 0, 20), x -> x.copyClip(0, 0, 41), x -> x.copyClip(0, 0, 59));
            dueAll(() -> heard(9, 50, 10), 0, x -> x.addClip(0, 45, 0, 0, 5), x -> x.copyClip(0, 0, 40));
            dueAll(() -> heard(9, 50, 10), 1, x -> x.addClip(0, 60, 0, 0, 6), x -> x.addClip(1, 50, 0, 0, 10), x -> x.copyClip(0, 1, 50));
        });
    }

    private static void clipNumbers() {
        says("Clips are numbered from 0, in ascending order of their tracks, and on the same track of their starts; the numbers change"
            + " whenever the clips do.", () -> {
                PodcastEditor x = ramp();
                due(0, x.addClip(2, 10, 0, 1, 5));
                due(0, x.addClip(1, 500, 0, 2, 5));
                due(1, x.addClip(2, 0, 0, 3, 5));
                due(3, x.addClip(2, 20, 0, 4, 5));
                dueClips(x, 1, 500, 2, 5, 2, 0, 3, 5, 2, 10, 1, 5, 2, 20, 4, 5);
                due(3, x.moveClip(1, 3, 0));
                due(0, x.copyClip(3, 0, 300));
                due(4, x.remove(1));
                dueClips(x, 0, 300, 3, 5, 2, 10, 1, 5, 2, 20, 4, 5, 3, 0, 3, 5);
            });
        says("A clip has a gain from 0 to 200, at first 100, a fade in and a fade out, which are numbers of frames, at first 0, and"
            + " together not more than its length.", () -> {
                dueClip(heard(9, 0, 10), 0, 0, 0, 0, 0, 10, 100, 0, 0);
                dueAll(() -> heard(9, 0, 10), 100, x -> x.setClip(0, 0, 0), x -> x.setClip(0, 0, 200));
                dueAll(() -> heard(9, 0, 10), 0, x -> x.setClip(0, 1, 10), x -> x.setClip(0, 2, 10));
                refuses(() -> heard(9, 0, 10), BAD, x -> x.setClip(0, 0, -1), x -> x.setClip(0, 0, 201), x -> x.setClip(0, 1, -1),
                    x -> x.setClip(0, 1, 11), x -> x.setClip(0, 2, -1), x -> x.setClip(0, 2, 11));
                PodcastEditor x = heard(9, 0, 10);
                x.setClip(0, 1, 4);
                due(BAD, x.setClip(0, 2, 7));
                due(0, x.setClip(0, 2, 6));
                due(BAD, x.setClip(0, 1, 5));
            });
        says("The end of all is the greatest end of a clip, 0 without clips.", () -> {
            due(0, empty().peak(0));
            PodcastEditor x = heard(9, 50, 100);
            x.addClip(1, 60, 0, 0, 50);
            due(150, x.peak(0));
            x.addClip(0, 300, 0, 0, 1);
            due(301, x.peak(0));
            x.chapter(599, 1);
            due(301, x.peak(0));
        });
    }

    /** A tone on frames 0 to 9 of track 0 with these numbers. */
    private static PodcastEditor faded(int a, int gain, int in, int out, int shape) {
        PodcastEditor x = heard(a, 0, 10);
        x.setClip(0, 0, gain);
        x.setClip(0, 1, in);
        x.setClip(0, 2, out);
        x.set(4, shape);
        return x;
    }

    private static void fades() {
        heading("Fades");
        says("The value of a clip at its frame k, from 0 on, is that of the source, times the gain divided by 100;", () -> {
            dueValues(faded(333, 100, 0, 0, 0), 0, 333, 333);
            dueValues(faded(333, 150, 0, 0, 0), 0, 499, 499);
            dueValues(faded(333, 1, 0, 0, 0), 8, 3, 3, 0);
            dueValues(faded(333, 0, 0, 0, 0), 0, 0, 0);
            PodcastEditor x = ramp();
            x.addClip(0, 40, 0, 20, 3);
            x.setClip(0, 0, 70);
            dueValues(x, 39, 0, 14, 14, 15, 0);
        });
        says("then, if k is less than the fade in n, it is faded by k + 1 of n + 1;", () -> {
            dueValues(faded(300, 100, 4, 0, 0), 0, 60, 120, 180, 240, 300, 300, 300, 300, 300, 300, 0);
            dueValues(faded(3, 150, 1, 0, 0), 0, 2, 4);
        });
        says("then, if the length minus k, which is m, is at most the fade out n, it is faded by m of n + 1.", () -> {
            dueValues(faded(400, 100, 0, 3, 0), 0, 400, 400, 400, 400, 400, 400, 400, 300, 200, 100, 0);
            dueValues(faded(3, 150, 0, 1, 0), 8, 4, 2);
            dueValues(faded(120, 100, 5, 5, 0), 0, 20, 40, 60, 80, 100, 100, 80, 60, 40, 20);
        });
    }

    private static void shapes() {
        says("To fade a value v by p of q means, by the shape, which is 0 at first:", () -> {
            due(0, empty().count(12));
            due(50, faded(100, 100, 1, 0, 0).value(0, 0, 0));
            due(0, empty().set(4, 0));
            due(0, empty().set(4, 2));
            dueAll(Edges::empty, BAD, x -> x.set(4, -1), x -> x.set(4, 3));
        });
        says("shape 0: v * p / q;", () -> {
            dueValues(faded(100, 100, 2, 0, 0), 0, 33, 66, 100);
            dueValues(faded(100, 100, 0, 6, 0), 4, 85, 71, 57, 42, 28, 14);
        });
        says("shape 1: v * p * p / (q * q);", () -> {
            dueValues(faded(100, 100, 2, 0, 1), 0, 11, 44, 100);
            dueValues(faded(100, 100, 0, 2, 1), 7, 100, 44, 11);
        });
        says("shape 2: 0 if 2 * p is less than q, otherwise v.", () -> {
            dueValues(faded(100, 100, 2, 0, 2), 0, 0, 100, 100);
            dueValues(faded(100, 100, 3, 0, 2), 0, 0, 100, 100);
            dueValues(faded(100, 100, 4, 5, 2), 0, 0, 0, 100, 100, 100, 100, 100, 100, 0, 0);
        });
        says("Values greater than 999 become 999 at last.", () -> {
            dueValues(faded(999, 200, 2, 1, 0), 0, 666, 999, 999);
            dueValues(faded(999, 200, 2, 1, 0), 8, 999, 999, 0);
            dueValues(faded(500, 200, 0, 0, 0), 0, 999);
        });
    }

    private static void tracks() {
        heading("Tracks");
        says("A track has a volume from 0 to 200, at first 100, is muted or not and solo or not, at first neither, and can have a ducker,"
            + " which is another track, at first none;", () -> {
                dueTrackNumber(0, 100, 0, 200);
                dueTrackNumber(1, 0, 0, 1);
                dueTrackNumber(2, 0, 0, 1);
                for (int t = 0; t < 4; t++) {
                    int track = t;
                    due(NOTHING, empty().track(track, 3));
                    for (int d = -2; d <= 4; d++) {
                        int ducker = d;
                        due(d < -1 || d == t || d > 3 ? BAD : NOTHING, empty().setTrack(track, 3, ducker));
                    }
                }
            });
        says("furthermore a threshold from 0 to 999, at first 100, an amount from 0 to 100, at first 50, and a hold from 0 to 20, at first 5.",
            () -> {
                dueTrackNumber(4, 100, 0, 999);
                dueTrackNumber(5, 50, 0, 100);
                dueTrackNumber(6, 5, 0, 20);
            });
        says("Its dry value at a frame is the value of its clip there, 0 without one, times the volume divided by 100.", () -> {
            PodcastEditor x = heard(333, 10, 10);
            due(333, x.value(0, 10, 1));
            x.setTrack(0, 0, 50);
            due(166, x.value(0, 10, 1));
            due(166, x.value(0, 19, 1));
            due(0, x.value(0, 9, 1));
            due(0, x.value(0, 20, 1));
            due(333, x.value(0, 10, 0));
            x.setTrack(0, 0, 200);
            due(666, x.value(0, 10, 1));
        });
    }

    /** Track 0 has a tone of 333 on all of the first 60 frames and is ducked by track 1, which has 100 on some of them. */
    private static PodcastEditor ducked(int start, int length) {
        PodcastEditor x = heard(333, 0, 60);
        x.addSource(0, 200, 100, 0);
        x.addClip(1, start, 1, 0, length);
        x.setTrack(0, 3, 1);
        return x;
    }

    private static void dueDucked(PodcastEditor x, int from, int to) {
        for (int frame = 0; frame < 60; frame++) {
            due(frame >= from && frame < to ? 1 : 0, x.value(0, frame, 3));
        }
        due(0, x.value(1, from, 3));
    }

    private static void ducks() {
        says("It is ducked at a frame f if it has a ducker and the dry value of the ducker is at least the threshold at some frame from f - hold"
            + " to f, as far as these exist.", () -> {
                dueDucked(ducked(10, 10), 10, 25);
                PodcastEditor x = ducked(10, 10);
                x.setTrack(0, 6, 0);
                dueDucked(x, 10, 20);
                x = ducked(0, 1);
                x.setTrack(0, 6, 20);
                dueDucked(x, 0, 21);
                x.setTrack(0, 4, 101);
                dueDucked(x, 0, 0);
                x.setTrack(1, 0, 101);
                dueDucked(x, 0, 21);
                x.setTrack(0, 3, 2);
                dueDucked(x, 0, 0);
                x.setTrack(0, 3, -1);
                x.setTrack(0, 4, 0);
                dueDucked(x, 0, 0);
            });
        says("Its wet value is its dry value, or, if it is ducked, that times (100 - amount) divided by 100.", () -> {
            int[] amounts = {50, 30, 0, 99, 100};
            int[] wet = {166, 233, 333, 3, 0};
            for (int i = 0; i < amounts.length; i++) {
                PodcastEditor x = ducked(10, 10);
                x.setTrack(0, 5, amounts[i]);
                due(333, x.value(0, 9, 2));
                due(wet[i], x.value(0, 10, 2));
                due(wet[i], x.value(0, 24, 2));
                due(333, x.value(0, 25, 2));
                due(333, x.value(0, 10, 1));
            }
        });
        says("A track is audible if it is not muted, and it is solo or no track is solo.", () -> {
            PodcastEditor x = empty();
            dueAudible(x, 1, 1, 1, 1);
            x.setTrack(1, 1, 1);
            dueAudible(x, 1, 0, 1, 1);
            x.setTrack(2, 2, 1);
            dueAudible(x, 0, 0, 1, 0);
            x.setTrack(3, 2, 1);
            dueAudible(x, 0, 0, 1, 1);
            x.setTrack(2, 1, 1);
            dueAudible(x, 0, 0, 0, 1);
        });
    }

    /** Tones of these values on frame 0 of the tracks 0, 1 and so on. */
    private static PodcastEditor together(int... values) {
        PodcastEditor x = empty();
        for (int i = 0; i < values.length; i++) {
            x.addSource(0, 1, values[i], 0);
            x.addClip(i, 0, i, 0, 1);
        }
        return x;
    }

    private static void mix() {
        heading("Mix");
        says("The mix at a frame is the sum of the wet values of all audible tracks, times the master, which is from 0 to 400 and at first 100,"
            + " divided by 100, but at most 999.", () -> {
                dueSetting(0, 100, 0, 400);
                due(1 + 20 + 300 + 400, together(1, 20, 300, 400).mix(0));
                PodcastEditor x = together(33, 33, 500);
                x.setTrack(2, 1, 1);
                due(66, x.mix(0));
                x.set(0, 50);
                due(33, x.mix(0));
                x.set(0, 400);
                due(264, x.mix(0));
                x.setTrack(0, 3, 1);
                x.setTrack(0, 4, 0);
                due((16 + 33) * 4, x.mix(0));
                due(999, together(999, 999).mix(0));
                due(999, together(500, 500).mix(0));
                due(998, together(500, 498).mix(0));
            });
        says("A frame is over if it would be more than 999 otherwise.", () -> {
            due(0, together(500, 499).peak(3));
            due(1, together(500, 500).peak(3));
            PodcastEditor x = heard(250, 20, 10);
            x.set(0, 399);
            due(0, x.peak(3));
            x.set(0, 400);
            due(10, x.peak(3));
        });
    }

    private static void windows() {
        heading("Loudness");
        says("The window is from 4 to 50 frames, at first 10.", () -> dueSetting(1, 10, 4, 50));
        says("Windows are numbered from 0; window k consists of the frames from k * window on, as many as the window says;", () -> {
            dueLevels(heard(10, 10, 10), 0, 100);
            dueLevels(heard(10, 9, 2), 10, 10);
            PodcastEditor x = heard(10, 7, 1);
            x.set(1, 4);
            dueLevels(x, 0, 25);
            x.moveClip(0, 0, 8);
            dueLevels(x, 0, 0, 25);
            due(NONE, x.level(-1));
        });
        says("there are as many windows as are needed for all frames before the end of all.", () -> {
            int[] ends = {1, 10, 11, 20, 21, 200};
            int[] windows = {1, 1, 2, 2, 3, 20};
            due(0, empty().loudness(0));
            for (int i = 0; i < ends.length; i++) {
                due(windows[i], heard(0, 0, ends[i]).loudness(0));
            }
            due(60, heard(0, 599, 1).loudness(0));
        });
        says("The level of a window is the sum of the squares of the mix at its frames divided by the window, where the mix is 0 from frame"
            + " 600 on.", () -> {
                dueLevels(heard(7, 0, 1), 4);
                dueLevels(heard(10, 0, 15), 100, 50);
                PodcastEditor x = heard(7, 590, 10);
                x.set(1, 7);
                due(86, x.loudness(0));
                due(5 * 49 / 7, x.level(85));
                due(5 * 49 / 7, x.level(84));
                PodcastEditor y = heard(400, 0, 10);
                y.set(0, 400);
                dueLevels(y, 999 * 999);
            });
    }

    private static void dueLoudness(PodcastEditor x, int quiet, int low, int mean, int loudness) {
        due(quiet, x.loudness(1));
        due(low, x.loudness(2));
        due(mean, x.loudness(3));
        due(loudness, x.loudness(4));
        due(loudness, x.loudnessAgain());
    }

    /** A window of ten frames for each level, of which so many frames have the mix 10: 10 of the level for each frame. */
    private static PodcastEditor levels(int... frames) {
        PodcastEditor x = tone(10);
        for (int i = 0; i < frames.length; i++) {
            x.addClip(0, 10 * i, 0, 0, frames[i]);
        }
        return x;
    }

    private static void loudness() {
        says("The gate is from 0 to 999, at first 10, the share from 0 to 100, at first 25.", () -> {
            dueSetting(2, 10, 0, 999);
            dueSetting(3, 25, 0, 100);
        });
        says("A window is quiet if its level is less than the square of the gate.", () -> {
            due(0, levels(10).loudness(1));
            due(1, levels(9).loudness(1));
            PodcastEditor x = levels(4, 3, 10, 4);
            due(3, x.loudness(1));
            x.set(2, 6);
            due(1, x.loudness(1));
            x.set(2, 7);
            due(3, x.loudness(1));
            x.set(2, 0);
            due(0, x.loudness(1));
        });
        says("The mean is that of the levels of all windows that are not quiet.", () -> {
            PodcastEditor x = levels(10, 9, 5, 1);
            due(100, x.loudness(3));
            x.set(2, 6);
            due((100 + 90 + 50) / 3, x.loudness(3));
            x.set(2, 0);
            due((100 + 90 + 50 + 10) / 4, x.loudness(3));
            x.set(2, 999);
            due(0, x.loudness(3));
        });
        says("A window that is not quiet is low if 100 times its level is less than the mean times the share.", () -> {
            PodcastEditor x = levels(1, 3);
            x.set(2, 0);
            x.set(3, 50);
            due(0, x.loudness(2));
            x.set(3, 51);
            due(1, x.loudness(2));
            x.set(2, 4);
            due(0, x.loudness(2));
            // 100 * 10 is just less than 77 * 13, and 101 * 10 would not be.
            x = levels(1, 10, 10, 10);
            x.set(2, 0);
            x.set(3, 13);
            dueLoudness(x, 0, 1, 77, 100);
            x.set(3, 12);
            dueLoudness(x, 0, 0, 77, 77);
            // 99 * 10 would be less than 20 * 50.
            x = levels(1, 3);
            x.set(2, 0);
            x.set(3, 50);
            dueLoudness(x, 0, 0, 20, 20);
        });
        says("The loudness is the mean of the levels of all windows that are neither quiet nor low, 0 if there are none.", () -> {
            PodcastEditor x = levels(1, 2, 10, 9, 10);
            x.set(2, 4);
            x.set(3, 30);
            dueLoudness(x, 1, 1, 77, (100 + 90 + 100) / 3);
            x.set(3, 25);
            dueLoudness(x, 1, 0, 77, 77);
            x.set(2, 11);
            dueLoudness(x, 5, 0, 0, 0);
            dueLoudness(empty(), 0, 0, 0, 0);
        });
    }

    private static void chapters() {
        heading("Chapters");
        says("There are at most 12 chapters, each with a frame and a title from 0 to 99, no two at the same frame, numbered from 0 in ascending"
            + " order of their frames.", () -> {
                PodcastEditor x = empty();
                due(0, x.chapter(300, 99));
                due(0, x.chapter(100, 0));
                due(1, x.chapter(200, 50));
                dueChapters(x, 100, 0, 200, 50, 300, 99);
                due(1, x.chapter(200, 51));
                dueChapters(x, 100, 0, 200, 51, 300, 99);
                refuses(Edges::empty, BAD, y -> y.chapter(0, -1), y -> y.chapter(0, 100));
                due(11, Edges.chapters(11).chapter(500, 0));
                due(FULL, Edges.chapters(12).chapter(500, 0));
                due(4, Edges.chapters(12).chapter(50, 0));
            });
    }

    private static void parts() {
        heading("Parts");
        says("When a clip is divided at its frame k, the first part keeps the start, the offset, the gain and the fade in, and has the fade"
            + " out 0;", () -> {
                PodcastEditor x = one();
                due(1, x.divide(0, 5));
                dueClip(x, 0, 1, 100, 0, 20, 5, 70, 3, 0);
            });
        says("the second part begins with frame k, keeps the gain and the fade out, and has the fade in 0.", () -> {
            PodcastEditor x = one();
            due(1, x.divide(0, 5));
            dueClip(x, 1, 1, 105, 0, 25, 5, 70, 0, 4);
        });
        says("Whenever fades are together longer than the clip, the fade out is shortened, down to 0 if need be, and then the fade in.", () -> {
            int[][] due = {{1, 3, 4}, {3, 3, 4}, {4, 3, 3}, {6, 3, 1}, {7, 3, 0}, {8, 2, 0}, {9, 1, 0}};
            for (int[] numbers : due) {
                for (int side = 0; side < 2; side++) {
                    PodcastEditor x = one();
                    x.trim(0, side, numbers[0]);
                    due(numbers[1], x.clip(0, 6));
                    due(numbers[2], x.clip(0, 7));
                }
            }
            PodcastEditor x = one();
            x.divide(0, 2);
            due(2, x.clip(0, 6));
            x = one();
            x.divide(0, 7);
            due(3, x.clip(1, 7));
        });
    }

    private static void cuts() {
        heading("Ripples");
        says("To cut the frames from one to another one, which itself is not cut, means: each clip loses its frames that are cut, as if it were"
            + " divided where they begin and end, and becomes two clips if some before and some behind them remain;", () -> {
                PodcastEditor x = one();
                due(2, x.cut(103, 105));
                dueClip(x, 0, 1, 100, 0, 20, 3, 70, 3, 0);
                dueClip(x, 1, 1, 103, 0, 25, 5, 70, 0, 4);
                PodcastEditor y = one();
                due(5, y.cut(105, 200));
                due(1, y.count(1));
                dueClip(y, 0, 1, 100, 0, 20, 5, 70, 3, 0);
                PodcastEditor z = one();
                due(5, z.cut(50, 105));
                due(1, z.count(1));
                dueClip(z, 0, 1, 50, 0, 25, 5, 70, 0, 4);
                PodcastEditor all = one();
                due(10, all.cut(100, 110));
                due(0, all.count(1));
            });
        says("frames behind the cut, and chapters there, come forward by the length of the cut;", () -> {
            PodcastEditor x = one();
            x.chapter(30, 1);
            x.chapter(50, 2);
            x.chapter(599, 3);
            due(0, x.cut(40, 50));
            dueChapters(x, 30, 1, 40, 2, 589, 3);
            dueClip(x, 0, 1, 90, 0, 20, 10, 70, 3, 4);
            due(0, x.cut(200, 300));
            due(90, x.clip(0, 1));
        });
        says("chapters in the cut come to its first frame;", () -> {
            PodcastEditor x = Edges.chapters(3);
            due(0, x.cut(15, 21));
            dueChapters(x, 10, 1, 15, 2, 24, 3);
            PodcastEditor y = Edges.chapters(3);
            due(0, y.cut(20, 25));
            dueChapters(y, 10, 1, 20, 2, 25, 3);
        });
        says("of several chapters at the same frame then, only the one that came first before stays.", () -> {
            PodcastEditor x = Edges.chapters(5);
            due(0, x.cut(15, 35));
            dueChapters(x, 10, 1, 15, 2, 20, 4, 30, 5);
            PodcastEditor y = Edges.chapters(5);
            due(0, y.cut(10, 40));
            dueChapters(y, 10, 1, 20, 5);
        });
    }

    private static void insertions() {
        says("To insert some frames at a frame means: each clip with frames before and from that frame on is divided there;", () -> {
            PodcastEditor x = one();
            x.addClip(0, 103, 0, 0, 2);
            due(4, x.insert(104, 6));
            dueClips(x, 0, 103, 0, 1, 0, 110, 1, 1, 1, 100, 20, 4, 1, 110, 24, 6);
            dueClip(x, 2, 1, 100, 0, 20, 4, 70, 3, 0);
            dueClip(x, 3, 1, 110, 0, 24, 6, 70, 0, 4);
            due(1, one().insert(100, 6));
            due(1, one().insert(110, 6));
        });
        says("clips and chapters from that frame on go back by that number.", () -> {
            PodcastEditor x = one();
            x.chapter(99, 1);
            x.chapter(100, 2);
            x.chapter(500, 3);
            due(1, x.insert(100, 7));
            due(107, x.clip(0, 1));
            dueChapters(x, 99, 1, 107, 2, 507, 3);
            due(1, x.insert(117, 7));
            due(107, x.clip(0, 1));
            dueChapters(x, 99, 1, 107, 2, 514, 3);
        });
    }

    /** A tone of 5 on frames 10 to 19 and 30 to 39. */
    private static PodcastEditor twice() {
        PodcastEditor x = heard(5, 10, 10);
        x.addClip(0, 30, 0, 50, 10);
        return x;
    }

    private static void silences() {
        heading("Silences");
        says("A silence for a value v and a length n is a sequence of frames before the end of all at which the mix is less than v, as long as"
            + " possible, with at least n frames.", () -> {
                dueSilences(twice(), 5, 1, 0, 10, 20, 10);
                dueSilences(twice(), 5, 10, 0, 10, 20, 10);
                dueSilences(twice(), 5, 11);
                dueSilences(twice(), 6, 1, 0, 40);
                dueSilences(twice(), 6, 41);
                PodcastEditor x = twice();
                x.set(0, 20);
                dueSilences(x, 1, 1, 0, 10, 20, 10);
            });
        says("Silences are numbered from 0 in ascending order of their frames.", () -> {
            PodcastEditor x = crowd(3);
            dueSilences(x, 100, 1, 2, 1, 5, 1);
            due(NONE, x.silence(100, 1, 2, 0));
        });
        says("To tighten them means: the silences are found, and then of each one, from the last one to the first one, all frames but its first"
            + " n frames are cut.", () -> {
                PodcastEditor x = twice();
                due(12, x.tighten(5, 4));
                dueClips(x, 0, 4, 0, 10, 0, 18, 50, 10);
                PodcastEditor y = twice();
                due(0, y.tighten(5, 10));
                dueClips(y, 0, 10, 0, 10, 0, 30, 50, 10);
                PodcastEditor z = twice();
                due(33, z.tighten(6, 7));
                due(0, z.count(1));
                PodcastEditor w = twice();
                w.chapter(25, 3);
                due(18, w.tighten(5, 1));
                dueChapters(w, 12, 3);
            });
    }

    private static void events() {
        heading("Events");
        says("The events are the ends of clips (kind 0), the chapters (kind 1) and the starts of clips (kind 2), in ascending order of their"
            + " frames, at the same frame of their kinds, and then of their tracks.", () -> {
                dueEvents(empty());
                PodcastEditor x = tone(9);
                x.addClip(3, 0, 0, 0, 10);
                x.addClip(1, 10, 0, 0, 5);
                x.addClip(0, 10, 0, 0, 5);
                x.addClip(2, 4, 0, 0, 6);
                x.chapter(10, 77);
                x.chapter(3, 66);
                dueEvents(x, 0, 2, 3, 3, 1, 66, 4, 2, 2, 10, 0, 2, 10, 0, 3, 10, 1, 77, 10, 2, 0, 10, 2, 1, 15, 0, 0, 15, 0, 1);
            });
    }

    private static void commands() {
        heading("Text");
        says("A text of commands is a sequence of one or more commands with \";\" between them: \"x\" number \"-\" number cuts, \"i\" number"
            + " \"+\" number inserts so many frames at a frame, \"d\" number removes a clip, \"s\" number \"@\" number divides a clip at its"
            + " frame, \"m\" number \"@\" number moves a clip on its track to a start, \"c\" number \"=\" number sets a chapter at a frame with"
            + " a title.", () -> {
                same(Edges::one, x -> run(x, "x103-105"), x -> x.cut(103, 105));
                same(Edges::one, x -> run(x, "i104+6"), x -> x.insert(104, 6));
                same(Edges::one, x -> run(x, "d0"), x -> x.remove(0));
                same(Edges::one, x -> run(x, "s0@4"), x -> x.divide(0, 4));
                same(Edges::one, x -> run(x, "m0@9"), x -> x.moveClip(0, 1, 9));
                same(Edges::one, x -> run(x, "c8=9"), x -> x.chapter(8, 9));
                dueAll(Edges::one, 1, x -> run(x, "d0"));
                dueAll(Edges::one, 3, x -> run(x, "c1=1;s0@1;d1"));
                dueAll(Edges::one, -1000, x -> x.execute(), x -> run(x, ";"), x -> run(x, "C1=1"), x -> run(x, " d0"));
                dueAll(Edges::one, -1002, x -> run(x, "d0,d0"), x -> run(x, "x1+2"), x -> run(x, "i1-2"), x -> run(x, "s0=1"));
            });
        says("For m, s and i, the first number is the clip or the frame.", () -> {
            PodcastEditor x = crowd(3);
            due(1, run(x, "m2@050"));
            dueClips(x, 0, 0, 0, 2, 0, 3, 0, 2, 0, 50, 0, 2);
            due(1, run(x, "s2@1"));
            dueClips(x, 0, 0, 0, 2, 0, 3, 0, 2, 0, 50, 0, 1, 0, 51, 1, 1);
            due(1, run(x, "i2+7"));
            dueClips(x, 0, 0, 0, 2, 0, 10, 0, 2, 0, 57, 0, 1, 0, 58, 1, 1);
        });
    }

    private static void numbers() {
        says("A number has one to three digits, zeros at the front allowed.", () -> {
            PodcastEditor x = empty();
            due(3, run(x, "c7=05;c08=006;c009=99"));
            dueChapters(x, 7, 5, 8, 6, 9, 99);
            dueAll(Edges::empty, -1004, y -> run(y, "c0007=5"), y -> run(y, "d1234"));
            dueAll(Edges::empty, -1001, y -> run(y, "c=5"), y -> run(y, "d"), y -> run(y, "d-1"));
            due(-1006, run(empty(), "c7=0005"));
        });
        says("The fault position of a text is the index of its first character with which no such text can continue, or its length if it ends"
            + " too early.", () -> {
                String[] texts = {"", "x", "x5", "x5-", "x5-6;", "y", "x5=6", "x5-6x", "x5-6;;", "x5-6;d1x5", "dd", "c1=2;c3", "d1 ", "d123;4"};
                int[] positions = {0, 1, 2, 3, 5, 0, 2, 4, 5, 7, 1, 7, 2, 5};
                for (int i = 0; i < texts.length; i++) {
                    String text = texts[i];
                    refuses(Edges::one, -1000 - positions[i], y -> run(y, text));
                }
            });
        says("A command is refused if the method for it returns an error code.", () -> {
            String[] texts = {"d1", "s0@0", "s0@10", "m1@0", "m0@591", "x5-5", "x5-601", "i0+0", "i600+1", "i0+491", "c600=0", "c0=100"};
            int[] codes = {NONE, BAD, BAD, NONE, BAD, BAD, BAD, BAD, BAD, BAD, BAD, BAD};
            for (int i = 0; i < texts.length; i++) {
                PodcastEditor x = one();
                due(REFUSED, run(x, "c1=1;" + texts[i] + ";c2=2"));
                due(codes[i], x.refused(0));
                due(1, x.refused(1));
                due(0, x.count(2));
            }
            PodcastEditor x = crowd(24);
            due(REFUSED, run(x, "m5@1"));
            due(OVERLAP, x.refused(0));
            due(REFUSED, run(x, "s5@1"));
            due(FULL, x.refused(0));
        });
    }

    private static final String[] CHANGES = {"addSource", "set", "setTrack", "addClip", "setClip", "moveClip", "copyClip", "trim", "divide",
        "remove", "cut", "tighten", "insert", "chapter", "dropChapter", "normalize", "execute"};

    /** Each change on an editor with one clip and one chapter, by which as little as possible changes. */
    private static Ask[] changesOf() {
        return new Ask[] {x -> x.addSource(0, 1, 0, 0), x -> x.set(0, 100), x -> x.setTrack(0, 3, -1), x -> x.addClip(0, 0, 0, 0, 1),
            x -> x.setClip(0, 0, 70), x -> x.moveClip(0, 1, 100), x -> x.copyClip(0, 0, 0), x -> x.trim(0, 0, 0), x -> x.divide(0, 1),
            x -> x.remove(0), x -> x.cut(598, 599), x -> x.tighten(1, 600), x -> x.insert(598, 1), x -> x.chapter(50, 1),
            x -> x.dropChapter(0), x -> x.normalize(999), x -> run(x, "c50=1")};
    }

    private static PodcastEditor changing() {
        PodcastEditor x = one();
        x.chapter(50, 1);
        x.save();
        x.restore();
        x.set(2, 20);
        x.undo();
        return x;
    }

    private static void changes() {
        heading("Steps");
        says("The changes are the successful calls of addSource, set, setTrack, addClip, setClip, moveClip, copyClip, trim, divide, remove, cut,"
            + " tighten, insert, chapter, dropChapter, normalize and execute, also those by which nothing changes.", () -> {
                Ask[] changes = changesOf();
                due(CHANGES.length, changes.length);
                for (Ask change : changes) {
                    PodcastEditor x = changing();
                    change.of(x);
                    due(1, x.count(4));
                    due(0, x.count(5));
                }
                Ask[] others = {x -> x.addSource(9, 1, 0, 0), x -> x.set(9, 0), x -> x.setTrack(0, 3, 0), x -> x.addClip(1, 100, 0, 0, 1),
                    x -> x.setClip(0, 0, 201), x -> x.moveClip(0, 1, 600), x -> x.copyClip(0, 1, 100), x -> x.trim(0, 0, 10),
                    x -> x.divide(0, 10), x -> x.remove(1), x -> x.cut(5, 5), x -> x.tighten(0, 1), x -> x.insert(0, 600),
                    x -> x.chapter(50, 100), x -> x.dropChapter(1), x -> x.normalize(0), x -> run(x, "d1"), x -> run(x, "d"),
                    x -> x.save(), x -> x.write(), x -> x.append('d'), x -> x.begin() + x.end(), x -> x.ifCut(0, 9, 0)};
                for (Ask other : others) {
                    PodcastEditor x = changing();
                    other.of(x);
                    due(0, x.count(4));
                    due(1, x.count(5));
                }
            });
    }

    private static void steps() {
        says("A change outside of a group is a step; all changes of a group are one step, if there is at least one.", () -> {
            PodcastEditor x = empty();
            x.set(0, 1);
            x.set(0, 2);
            due(2, x.count(4));
            due(2, x.begin());
            x.set(0, 3);
            x.set(0, 4);
            x.set(0, 5);
            due(3, x.end());
            due(3, x.count(4));
            x.begin();
            due(0, x.end());
            due(3, x.count(4));
            due(2, x.undo());
            due(2, x.count(8));
            due(1, x.undo());
            due(1, x.count(8));
            due(1, x.redo());
            due(0, x.redo());
            due(5, x.count(8));
        });
        says("The latest 10 steps can be undone, and those that were undone can be redone until the next change.", () -> {
            PodcastEditor x = empty();
            for (int i = 1; i <= 12; i++) {
                x.set(0, i);
            }
            for (int i = 9; i >= 0; i--) {
                due(i, x.undo());
                due(2 + i, x.count(8));
            }
            due(NOTHING, x.undo());
            due(2, x.count(8));
            for (int i = 9; i >= 2; i--) {
                due(i, x.redo());
                due(12 - i, x.count(8));
            }
            x.set(0, 10);
            due(NOTHING, x.redo());
            due(0, x.count(5));
            due(9, x.count(4));
            PodcastEditor y = heard(100, 0, 10);
            y.set(0, 50);
            due(50, y.mix(0));
            y.undo();
            due(100, y.mix(0));
            y.redo();
            due(50, y.mix(0));
        });
        says("While a group is open, nothing can be undone, redone or restored.", () -> {
            refuses(Edges::open, REFUSED, x -> x.undo(), x -> x.redo(), x -> x.restore());
            PodcastEditor x = busy();
            x.begin();
            due(REFUSED, x.undo());
            due(REFUSED, x.redo());
            due(REFUSED, x.restore());
            x.end();
            due(0, x.redo());
            due(9, x.undo());
            due(4, x.restore());
        });
    }

    private static void inDoubtOfSound() {
        heading("In doubt");
        says("A dry value can be above 999.", () -> {
            PodcastEditor x = heard(999, 0, 1);
            x.setTrack(0, 0, 200);
            due(1998, x.value(0, 0, 1));
            due(1998, x.value(0, 0, 2));
            x.set(0, 50);
            due(999, x.mix(0));
            x.set(0, 25);
            due(499, x.mix(0));
        });
        says("A ducker counts whether it is audible or not, and with the threshold 0 at each frame.", () -> {
            PodcastEditor x = ducked(10, 10);
            x.setTrack(1, 1, 1);
            dueDucked(x, 10, 25);
            x.setTrack(1, 1, 0);
            x.setTrack(0, 2, 1);
            dueDucked(x, 10, 25);
            x.setTrack(0, 4, 0);
            x.setTrack(0, 6, 0);
            dueDucked(x, 0, 60);
            due(1, x.value(0, 599, 3));
        });
        says("A solo track that is muted is solo for the others.", () -> {
            PodcastEditor x = heard(9, 0, 10);
            x.setTrack(1, 2, 1);
            x.setTrack(1, 1, 1);
            dueAudible(x, 0, 0, 0, 0);
            due(0, x.mix(0));
            due(3, x.explain(0, 0));
        });
        // They can't: both fades together are not longer than the clip. So each frame is in one of them at most.
        says("Both fades can touch one frame, that in first.", () -> {
            dueValues(faded(120, 100, 4, 6, 0), 0, 24, 48, 72, 96, 102, 85, 68, 51, 34, 17);
            refuses(() -> faded(120, 100, 4, 6, 0), BAD, x -> x.setClip(0, 1, 5), x -> x.setClip(0, 2, 7));
            PodcastEditor x = faded(120, 100, 4, 6, 0);
            x.trim(0, 1, 1);
            dueValues(x, 0, 24, 48, 72, 96, 100, 80, 60, 40, 20, 0);
        });
    }

    private static void inDoubtOfEdits() {
        says("The part of a clip that stays when its beginning is cut has the fade in 0.", () -> {
            PodcastEditor x = one();
            due(1, x.cut(100, 101));
            dueClip(x, 0, 1, 100, 0, 21, 9, 70, 0, 4);
        });
        says("Chapters that come to the same frame by a cut are those in it, at its first frame, and just behind it alike.", () -> {
            int[][] cuts = {{10, 21, 1, 3}, {15, 30, 2, 4}, {10, 20, 1, 3}, {10, 30, 1, 4}};
            for (int[] cut : cuts) {
                PodcastEditor x = Edges.chapters(4);
                x.cut(cut[0], cut[1]);
                int at = cut[0] == 10 ? 0 : 1;
                due(cut[0], x.ofChapter(at, 0));
                due(cut[2], x.ofChapter(at, 1));
                due(cut[3], x.ofChapter(at + 1, 1));
            }
        });
        says("Commands are done one after the other, with the clips as they are then.", () -> {
            PodcastEditor x = one();
            due(4, run(x, "s0@4;m1@9;s0@2;d2"));
            dueClips(x, 1, 9, 24, 2, 1, 11, 26, 4);
            due(REFUSED, run(x, "d0;d1"));
            due(1, x.refused(1));
        });
        says("An empty group is no step.", () -> {
            PodcastEditor x = busy();
            int steps = x.count(4);
            due(steps, x.begin());
            due(0, x.end());
            due(steps, x.count(4));
            due(1, x.count(5));
            due(0, x.redo());
        });
        says("Ends of clips at 600 are events at the frame 600.", () -> {
            PodcastEditor x = heard(9, 590, 10);
            x.chapter(599, 8);
            dueEvents(x, 590, 2, 0, 599, 1, 8, 600, 0, 0);
        });
        says("The greatest of no values is 0.", () -> {
            dueAll(Edges::empty, 0, x -> x.track(0, 11), x -> x.peak(1), x -> x.peak(2));
            due(0, Edges.chapters(2).ofChapter(1, 3));
            PodcastEditor x = heard(9, 0, 10);
            x.chapter(10, 1);
            due(0, x.ofChapter(0, 3));
        });
        says("For masterFor, all masters are looked at, also if the loudness falls between them.", () -> {
            // A second, softer window is quiet at first, and makes the mean smaller once it is not.
            PodcastEditor x = together(0);
            x.addSource(0, 200, 40, 0);
            x.addSource(0, 200, 20, 0);
            x.addClip(1, 10, 1, 0, 10);
            x.addClip(1, 20, 2, 0, 10);
            x.set(3, 0);
            int greatest = NOTHING;
            int falls = 0;
            int before = 0;
            for (int master = 1; master <= 100; master++) {
                x.set(0, master);
                int loudness = x.loudness(4);
                falls += loudness < before ? 1 : 0;
                before = loudness;
                greatest = loudness <= 18 * 18 ? master : greatest;
            }
            due(1, falls);
            due(greatest, x.masterFor(18));
            x.set(0, 49);
            due(1, x.loudness(4) > 18 * 18 ? 1 : 0);
            due(1, greatest >= 50 ? 1 : 0);
        });
    }

    private static void errors() {
        heading("Errors");
        says("A call that returns an error code leaves the state unchanged, except that execute empties the text, and keeps what was refused.", () -> {
            refuses(Edges::idle, BAD, x -> x.addSource(4, 1, 0, 0), x -> x.set(0, 401), x -> x.setTrack(0, 0, 201),
                x -> x.addClip(2, 0, 0, 0, 0), x -> x.setClip(0, 1, 16), x -> x.moveClip(0, 0, -1), x -> x.trim(0, 0, 20), x -> x.divide(0, 0),
                x -> x.copyClip(0, 0, 581), x -> x.cut(9, 9), x -> x.insert(0, 1), x -> x.chapter(600, 0), x -> x.tighten(1, 0),
                x -> x.normalize(0), x -> x.append(31));
            refuses(Edges::idle, NONE, x -> x.remove(4), x -> x.dropChapter(3));
            refuses(Edges::idle, OVERLAP, x -> x.addClip(0, 19, 0, 0, 1), x -> x.moveClip(1, 0, 19), x -> x.copyClip(1, 0, 19));
            PodcastEditor x = busy();
            List<Integer> before = picture(x);
            due(REFUSED, run(x, ";d9"));
            due(0, x.count(7));
            due(NONE, x.refused(0));
            due(2, x.refused(1));
            type(x, "c7=7;d1");
            due(1, before.equals(picture(x)) ? 1 : 0);
        });
        says("If several errors apply, the one that is listed first is returned.", () -> {
            dueAll(() -> crowd(24), NONE, x -> x.addClip(4, -1, 0, 0, 1), x -> x.addClip(0, -1, 1, 0, 1), x -> x.setClip(24, 3, 0),
                x -> x.moveClip(24, 0, -1), x -> x.moveClip(0, 4, -1), x -> x.trim(24, 2, 0), x -> x.divide(24, 0), x -> x.copyClip(24, 0, -1),
                x -> x.copyClip(0, 4, -1), x -> x.source(1, 6), x -> x.setTrack(4, 7, 0), x -> x.track(4, 12), x -> x.clip(24, 10),
                x -> x.room(4, -1, 0), x -> x.ofChapter(0, 4), x -> x.value(4, 0, 4), x -> x.silence(1, 1, 600, 2), x -> x.event(48, 3));
            dueAll(() -> crowd(24), BAD, x -> x.addClip(0, -1, 0, 0, 1), x -> x.moveClip(0, 0, -1), x -> x.divide(0, 2),
                x -> x.copyClip(0, 0, 599), x -> x.silence(0, 1, 600, 0), x -> x.ifCut(5, 5, 4));
            dueAll(() -> crowd(24), FULL, x -> x.addClip(0, 0, 0, 0, 1), x -> x.copyClip(0, 0, 0), x -> x.divide(0, 1));
            due(BAD, Edges.chapters(12).chapter(600, 0));
            PodcastEditor x = empty();
            x.begin();
            due(REFUSED, x.undo());
            due(REFUSED, x.redo());
            due(REFUSED, x.restore());
        });
    }

    private static void snapshots() {
        says("The snapshot contains sources, clips, tracks, chapters and settings.", () -> {
            Ask[] changes = {x -> x.addSource(0, 9, 9, 0), x -> x.addClip(2, 0, 0, 0, 5), x -> x.setClip(0, 0, 3), x -> x.setTrack(0, 4, 7),
                x -> x.setTrack(3, 1, 1), x -> x.chapter(9, 9), x -> x.chapter(5, 99), x -> x.set(0, 7), x -> x.set(1, 7), x -> x.set(2, 7),
                x -> x.set(3, 7), x -> x.set(4, 2)};
            for (Ask change : changes) {
                PodcastEditor x = idle();
                x.save();
                x.restore();
                List<Integer> saved = picture(x);
                change.of(x);
                due(0, saved.equals(picture(x)) ? 1 : 0);
                due(4, x.restore());
                due(1, saved.equals(picture(x)) ? 1 : 0);
            }
            // Another source in the place of the one that was saved.
            PodcastEditor x = tone(5);
            x.save();
            x.undo();
            x.addSource(1, 9, 7, 8);
            due(0, x.restore());
            due(200, x.source(0, 1));
            due(5, x.sourceValue(0, 199));
        });
        says("The text, the written text and what was refused are in neither undo nor snapshot, and stay.", () -> {
            Ask[] backs = {x -> x.undo(), x -> x.redo(), x -> x.restore()};
            for (Ask back : backs) {
                PodcastEditor x = idle();
                x.save();
                run(x, "d0;d9");
                x.dropChapter(0);
                x.dropChapter(0);
                x.undo();
                due(12, x.write());
                type(x, "c7=8");
                due(1, back.of(x) >= 0 ? 1 : 0);
                due(4, x.count(7));
                due('c', x.written(0));
                due('3', x.written(11));
                due(NONE, x.written(12));
                due(NONE, x.refused(0));
                due(1, x.refused(1));
                due(1, x.execute());
                due(8, x.ofChapter(x.chapterAt(7), 1));
            }
        });
    }

    private static void constants() {
        part("The constants");
        quote("The constants:");
        says("NONE = -1: There is no such source, clip, track, chapter, window, event or frame.", () -> {
            due(-1, PodcastEditor.NONE);
            dueAll(Edges::empty, PodcastEditor.NONE, x -> x.source(0, 0), x -> x.clip(0, 0), x -> x.track(4, 0), x -> x.ofChapter(0, 0),
                x -> x.level(0), x -> x.event(0, 0), x -> x.mix(600));
        });
        says("BAD = -2: A number is out of range.", () -> {
            due(-2, PodcastEditor.BAD);
            dueAll(Edges::empty, PodcastEditor.BAD, x -> x.addSource(0, 0, 0, 0), x -> x.set(0, -1), x -> x.peak(5), x -> x.append(0));
        });
        says("FULL = -3: There is no room for more.", () -> {
            due(-3, PodcastEditor.FULL);
            due(PodcastEditor.FULL, crowd(24).addClip(1, 0, 0, 0, 1));
        });
        says("OVERLAP = -4: A clip would have a frame in common with another one on its track.", () -> {
            due(-4, PodcastEditor.OVERLAP);
            due(PodcastEditor.OVERLAP, crowd(2).moveClip(0, 0, 2));
        });
        says("REFUSED = -5: It cannot be done now.", () -> {
            due(-5, PodcastEditor.REFUSED);
            due(PodcastEditor.REFUSED, empty().end());
        });
        says("NOTHING = -6: There is nothing of this kind.", () -> {
            due(-6, PodcastEditor.NOTHING);
            dueAll(Edges::empty, PodcastEditor.NOTHING, x -> x.undo(), x -> x.refused(0), x -> x.clipAt(0, 0), x -> x.chapterAt(0));
        });
    }
}
