import java.util.Arrays;

/** An editor for a podcast. README.md tells where the document with its promises is. */
public final class PodcastEditor {
    public static final int NONE = -1;
    public static final int BAD = -2;
    public static final int FULL = -3;
    public static final int OVERLAP = -4;
    public static final int REFUSED = -5;
    public static final int NOTHING = -6;

    private static final int FRAMES = 600;
    private static final int GREATEST = 999;
    private static final int WRONG_TEXT = -1000;

    private static final int MASTER = 0;
    private static final int WINDOW = 1;
    private static final int GATE = 2;
    private static final int SHARE = 3;
    private static final int SHAPE = 4;
    private static final int SETTINGS = 5;
    private static final int[] SETTING_AT_FIRST = {100, 10, 10, 25, 0};
    private static final int[] SETTING_LEAST = {0, 4, 0, 0, 0};
    private static final int[] SETTING_MOST = {400, 50, 999, 100, 2};
    private static final int MOST_MASTER = 400;
    private static final int LEAST_WINDOW = 4;
    private static final int MOST_WINDOWS = FRAMES / LEAST_WINDOW;
    private static final int MOST_SILENCES = FRAMES / 2;

    private static final int TRACKS = 4;
    private static final int VOLUME = 0;
    private static final int MUTED = 1;
    private static final int SOLO = 2;
    private static final int DUCKER = 3;
    private static final int THRESHOLD = 4;
    private static final int AMOUNT = 5;
    private static final int HOLD = 6;
    private static final int TRACK_NUMBERS = 7;
    private static final int NO_DUCKER = -1;
    private static final int[] TRACK_AT_FIRST = {100, 0, 0, NO_DUCKER, 100, 50, 5};
    private static final int[] TRACK_LEAST = {0, 0, 0, NO_DUCKER, 0, 0, 0};
    private static final int[] TRACK_MOST = {200, 1, 1, TRACKS - 1, 999, 100, 20};

    private static final int MOST_SOURCES = 6;
    private static final int LONGEST_SOURCE = 200;
    private static final int KIND = 0;
    private static final int SOURCE_LENGTH = 1;
    private static final int NUMBER_A = 2;
    private static final int NUMBER_B = 3;
    private static final int SOURCE_NUMBERS = 4;
    private static final int TONE = 0;
    private static final int RAMP = 1;
    private static final int PULSE = 2;
    private static final int NOISE = 3;
    private static final int[] B_LEAST = {0, 0, 1, 0};
    private static final int[] B_MOST = {0, 999, 99, 999};

    private static final int MOST_CLIPS = 24;
    // A cut divides at both of its ends before it takes frames out, a clip on each track at most.
    private static final int CLIP_ROWS = MOST_CLIPS + 2 * TRACKS;
    private static final int ON_TRACK = 0;
    private static final int START = 1;
    private static final int SOURCE = 2;
    private static final int OFFSET = 3;
    private static final int LENGTH = 4;
    private static final int GAIN = 5;
    private static final int FADE_IN = 6;
    private static final int FADE_OUT = 7;
    private static final int CLIP_NUMBERS = 8;
    private static final int MOST_GAIN = 200;

    private static final int MOST_CHAPTERS = 12;
    private static final int MOST_TITLE = 99;

    private static final int MOST_STEPS = 10;

    private static final int MOST_TEXT = 60;
    // The shortest command has two characters, and one stands between two commands.
    private static final int MOST_COMMANDS = (MOST_TEXT + 1) / 3;
    private static final int MOST_WRITTEN = MOST_CHAPTERS * 8;

    private static final int CLIP_END = 0;
    private static final int CHAPTER = 1;
    private static final int CLIP_START = 2;
    private static final int EVENT_KINDS = 3;

    private final Project now = new Project();
    private final Project before = new Project();
    private final Project snapshot = new Project();
    private final History history = new History();
    private final Sound sound = new Sound(now);
    private final Loudness measured = new Loudness(now, sound);
    private final Silences silences = new Silences(now, sound);
    private final Script script = new Script();
    private final Writing writing = new Writing();
    private boolean hasSnapshot;
    private int refusedCode;
    private int refusedCommand;

    public PodcastEditor() {
    }

    // ---- sources and settings

    public int addSource(int kind, int length, int a, int b) {
        return done(now.putSource(kind, length, a, b));
    }

    public int source(int source, int what) {
        if (!now.hasSource(source)) {
            return NONE;
        }
        if (what < 0 || what > 5) {
            return BAD;
        }
        if (what == 4) {
            return now.clips.usersOf(source);
        }
        if (what == 5) {
            return heard().greatestOfSource(source);
        }
        return now.sourceNumber(source, what);
    }

    public int sourceValue(int source, int frame) {
        if (!now.hasSource(source) || frame < 0 || frame >= now.sourceNumber(source, SOURCE_LENGTH)) {
            return NONE;
        }
        return heard().sourceAt(source, frame);
    }

    public int set(int what, int v) {
        return done(now.changeSetting(what, v));
    }

    public int setTrack(int track, int what, int v) {
        if (!isTrack(track)) {
            return NONE;
        }
        if (!now.fitsTrack(track, what, v)) {
            return BAD;
        }
        int previous = trackAnswer(track, what);
        now.tracks[track * TRACK_NUMBERS + what] = v;
        noteChange();
        return previous;
    }

    public int track(int track, int what) {
        if (!isTrack(track)) {
            return NONE;
        }
        if (what < 0 || what > 11) {
            return BAD;
        }
        if (what < TRACK_NUMBERS) {
            return trackAnswer(track, what);
        }
        switch (what) {
            case 7:
                return now.isAudible(track) ? 1 : 0;
            case 8:
                return now.clips.clipsOn(track);
            case 9:
                return now.clips.framesOn(track);
            case 10:
                return heard().duckedFrames(track);
            default:
                return heard().greatestOfTrack(track);
        }
    }

    private int trackAnswer(int track, int what) {
        int number = now.trackNumber(track, what);
        return what == DUCKER && number == NO_DUCKER ? NOTHING : number;
    }

    // ---- clips

    public int addClip(int track, int start, int source, int offset, int length) {
        return done(now.placeClip(track, start, source, offset, length));
    }

    public int clip(int clip, int what) {
        if (!now.clips.has(clip)) {
            return NONE;
        }
        if (what < 0 || what > 9) {
            return BAD;
        }
        if (what == 8) {
            return heard().greatestOfClip(clip);
        }
        if (what == 9) {
            return heard().sumOfClip(clip);
        }
        return now.clips.get(clip, what);
    }

    public int setClip(int clip, int what, int v) {
        return done(now.clips.change(clip, what, v));
    }

    public int moveClip(int clip, int track, int start) {
        return done(now.clips.shift(clip, track, start));
    }

    public int trim(int clip, int side, int frames) {
        return done(now.trimClip(clip, side, frames));
    }

    public int divide(int clip, int at) {
        return done(now.clips.divideOne(clip, at));
    }

    public int remove(int clip) {
        return done(now.clips.takeOut(clip));
    }

    public int room(int track, int from, int length) {
        if (!isTrack(track)) {
            return NONE;
        }
        if (!isFrame(from) || length < 1 || length > FRAMES) {
            return BAD;
        }
        for (int start = from; start <= FRAMES - length; start++) {
            if (now.clips.isFree(track, start, length, NONE)) {
                return start;
            }
        }
        return NOTHING;
    }

    public int copyClip(int clip, int track, int start) {
        return done(now.clips.duplicate(clip, track, start));
    }

    public int clipAt(int track, int frame) {
        if (!isTrack(track) || !isFrame(frame)) {
            return NONE;
        }
        int clip = now.clips.on(track, frame);
        return clip < 0 ? NOTHING : clip;
    }

    public int explain(int track, int frame) {
        if (!isTrack(track) || !isFrame(frame)) {
            return NONE;
        }
        int clip = now.clips.on(track, frame);
        if (clip < 0) {
            return 1;
        }
        if (now.trackNumber(track, MUTED) == 1) {
            return 2;
        }
        if (!now.isAudible(track)) {
            return 3;
        }
        if (heard().isDucked(track, frame)) {
            return 4;
        }
        return now.clips.isFading(clip, frame) ? 5 : 0;
    }

    // ---- ripples and chapters

    public int cut(int from, int to) {
        return done(now.cutFrames(from, to));
    }

    public int insert(int at, int length) {
        return done(now.insertFrames(at, length));
    }

    public int chapter(int frame, int title) {
        return done(now.chapters.enter(frame, title));
    }

    public int dropChapter(int chapter) {
        return done(now.chapters.takeOut(chapter));
    }

    public int ofChapter(int chapter, int what) {
        if (!now.chapters.has(chapter)) {
            return NONE;
        }
        if (what < 0 || what > 3) {
            return BAD;
        }
        int first = now.chapters.frames[chapter];
        if (what == 0) {
            return first;
        }
        if (what == 1) {
            return now.chapters.titles[chapter];
        }
        int length = now.framesOfChapter(chapter);
        return what == 2 ? length : heard().greatestMix(first, length);
    }

    public int chapterAt(int frame) {
        if (!isFrame(frame)) {
            return NONE;
        }
        int after = now.chapters.firstFrom(frame + 1);
        return after == 0 ? NOTHING : after - 1;
    }

    // ---- values and loudness

    public int value(int track, int frame, int what) {
        if (!isTrack(track) || !isFrame(frame)) {
            return NONE;
        }
        switch (what) {
            case 0:
                return heard().valueOnTrack(track, frame);
            case 1:
                return heard().dryAt(track, frame);
            case 2:
                return heard().wetAt(track, frame);
            case 3:
                return heard().isDucked(track, frame) ? 1 : 0;
            default:
                return BAD;
        }
    }

    public int mix(int frame) {
        return isFrame(frame) ? heard().mixAt(frame) : NONE;
    }

    public int peak(int what) {
        switch (what) {
            case 0:
                return now.clips.lastEnd();
            case 1:
                return heard().greatestMix(0, FRAMES);
            case 2:
                return heard().frameOfGreatestMix();
            case 3:
                return heard().framesOver();
            case 4:
                return heard().sumOfMix();
            default:
                return BAD;
        }
    }

    public int level(int window) {
        measureNow();
        return window < 0 || window >= measured.windows ? NONE : measured.levels[window];
    }

    public int loudness(int what) {
        if (what < 0 || what > 4) {
            return BAD;
        }
        measureNow();
        switch (what) {
            case 0:
                return measured.windows;
            case 1:
                return measured.quiet;
            case 2:
                return measured.low;
            case 3:
                return measured.mean;
            default:
                return measured.loudest;
        }
    }

    public int masterFor(int target) {
        return greatestMaster(target);
    }

    public int normalize(int target) {
        int master = greatestMaster(target);
        if (master > 0) {
            now.settings[MASTER] = master;
        }
        return done(master);
    }

    public int covered(int track) {
        if (!isTrack(track)) {
            return NONE;
        }
        int frames = 0;
        for (int frame = 0; frame < FRAMES; frame++) {
            if (now.clips.on(track, frame) >= 0) {
                frames++;
            }
        }
        return frames;
    }

    public int loudnessAgain() {
        sound.refresh();
        return measured.secondWay();
    }

    public int silence(int v, int n, int silence, int what) {
        if (!isSilence(v, n)) {
            return BAD;
        }
        sound.refresh();
        silences.find(v, n);
        if (silence == -1) {
            return silences.found;
        }
        if (silence < 0 || silence >= silences.found) {
            return NONE;
        }
        if (what < 0 || what > 1) {
            return BAD;
        }
        return what == 0 ? silences.firsts[silence] : silences.lengths[silence];
    }

    public int tighten(int v, int n) {
        if (!isSilence(v, n)) {
            return BAD;
        }
        sound.refresh();
        silences.find(v, n);
        Project.copy(now, before);
        int frames = 0;
        // From the last one on, so that the silences still to come stay where they were found.
        for (int i = silences.found - 1; i >= 0; i--) {
            int end = silences.firsts[i] + silences.lengths[i];
            int from = silences.firsts[i] + n;
            if (from < end && now.cutFrames(from, end) < 0) {
                Project.copy(before, now);
                return FULL;
            }
            frames += end - from;
        }
        return done(frames);
    }

    public int ifCut(int from, int to, int what) {
        if (what < 0 || what > 3) {
            return BAD;
        }
        Project.copy(now, before);
        int answer = now.cutFrames(from, to);
        if (answer >= 0) {
            sound.stale = true;
            answer = afterCut(what);
            Project.copy(before, now);
            sound.stale = true;
        }
        return answer;
    }

    // ---- events and texts

    public int event(int event, int what) {
        if (event < 0 || event >= now.events()) {
            return NONE;
        }
        if (what < 0 || what > 2) {
            return BAD;
        }
        int key = -1;
        for (int i = 0; i <= event; i++) {
            key = now.nextEvent(key);
        }
        int frame = key / (EVENT_KINDS * TRACKS);
        int kind = key / TRACKS % EVENT_KINDS;
        if (what == 0) {
            return frame;
        }
        if (what == 1) {
            return kind;
        }
        return kind == CHAPTER ? now.chapters.titleAt(frame) : key % TRACKS;
    }

    public int append(int code) {
        if (code < 32 || code > 126) {
            return BAD;
        }
        return script.add(code);
    }

    public int execute() {
        int fault = script.read();
        script.length = 0;
        if (fault >= 0) {
            return WRONG_TEXT - fault;
        }
        Project.copy(now, before);
        for (int i = 0; i < script.commands; i++) {
            int code = carryOut(script.letters[i], script.firsts[i], script.seconds[i]);
            if (code < 0) {
                Project.copy(before, now);
                refusedCode = code;
                refusedCommand = i;
                return REFUSED;
            }
        }
        return done(script.commands);
    }

    public int refused(int what) {
        if (what < 0 || what > 1) {
            return BAD;
        }
        if (refusedCode == 0) {
            return NOTHING;
        }
        return what == 0 ? refusedCode : refusedCommand;
    }

    public int write() {
        writing.length = 0;
        for (int i = 0; i < now.chapters.size; i++) {
            if (i > 0) {
                writing.add(';');
            }
            writing.add('c');
            writing.addNumber(now.chapters.frames[i]);
            writing.add('=');
            writing.addNumber(now.chapters.titles[i]);
        }
        return writing.length;
    }

    public int written(int index) {
        return index < 0 || index >= writing.length ? NONE : writing.codes[index];
    }

    // ---- group, undo, snapshot

    public int begin() {
        if (history.isOpen) {
            return REFUSED;
        }
        history.isOpen = true;
        history.changes = 0;
        return history.undoable;
    }

    public int end() {
        if (!history.isOpen) {
            return REFUSED;
        }
        history.isOpen = false;
        if (history.changes > 0) {
            history.keep(now);
        }
        return history.changes;
    }

    public int undo() {
        if (history.isOpen) {
            return REFUSED;
        }
        if (history.undoable == 0) {
            return NOTHING;
        }
        history.goBack(now);
        sound.stale = true;
        return history.undoable;
    }

    public int redo() {
        if (history.isOpen) {
            return REFUSED;
        }
        if (history.redoable == 0) {
            return NOTHING;
        }
        history.goOn(now);
        sound.stale = true;
        return history.redoable;
    }

    public int save() {
        Project.copy(now, snapshot);
        hasSnapshot = true;
        return now.clips.size;
    }

    public int restore() {
        if (history.isOpen) {
            return REFUSED;
        }
        if (!hasSnapshot) {
            return NOTHING;
        }
        Project.copy(snapshot, now);
        history.startFrom(now);
        sound.stale = true;
        return now.clips.size;
    }

    public int count(int what) {
        switch (what) {
            case 0:
                return now.sourceCount;
            case 1:
                return now.clips.size;
            case 2:
                return now.chapters.size;
            case 3:
                return now.events();
            case 4:
                return history.undoable;
            case 5:
                return history.redoable;
            case 6:
                return history.isOpen ? 1 : 0;
            case 7:
                return script.length;
            default:
                return what < 8 || what >= 8 + SETTINGS ? BAD : now.settings[what - 8];
        }
    }

    // ---- what several calls share

    private static boolean isTrack(int track) {
        return track >= 0 && track < TRACKS;
    }

    private static boolean isFrame(int frame) {
        return frame >= 0 && frame < FRAMES;
    }

    private static boolean isSilence(int v, int n) {
        return v >= 1 && v <= GREATEST && n >= 1 && n <= FRAMES;
    }

    private int done(int answer) {
        if (answer >= 0) {
            noteChange();
        }
        return answer;
    }

    private void noteChange() {
        sound.stale = true;
        history.note(now);
    }

    private Sound heard() {
        sound.refresh();
        return sound;
    }

    private void measureNow() {
        sound.refresh();
        measured.measure(now.settings[MASTER]);
    }

    private int greatestMaster(int target) {
        if (target < 1 || target > GREATEST) {
            return BAD;
        }
        sound.refresh();
        // The loudness can fall while the master grows, so no master may be left out.
        for (int master = MOST_MASTER; master >= 1; master--) {
            measured.measure(master);
            if (measured.loudest <= target * target) {
                return master;
            }
        }
        return NOTHING;
    }

    private int afterCut(int what) {
        switch (what) {
            case 0:
                return now.clips.lastEnd();
            case 1:
                measureNow();
                return measured.loudest;
            case 2:
                return now.clips.size;
            default:
                return now.chapters.size;
        }
    }

    private int carryOut(int letter, int first, int second) {
        switch (letter) {
            case 'x':
                return now.cutFrames(first, second);
            case 'i':
                return now.insertFrames(first, second);
            case 'd':
                return now.clips.takeOut(first);
            case 's':
                return now.clips.divideOne(first, second);
            case 'm':
                return now.clips.has(first)
                    ? now.clips.shift(first, now.clips.get(first, ON_TRACK), second) : NONE;
            default:
                return now.chapters.enter(first, second);
        }
    }

    /** The clips, in ascending order of their tracks and starts. */
    private static final class Clips {
        final int[] numbers = new int[CLIP_ROWS * CLIP_NUMBERS];
        int size;

        boolean has(int clip) {
            return clip >= 0 && clip < size;
        }

        int get(int clip, int what) {
            return numbers[clip * CLIP_NUMBERS + what];
        }

        void put(int clip, int what, int v) {
            numbers[clip * CLIP_NUMBERS + what] = v;
        }

        int endOf(int clip) {
            return get(clip, START) + get(clip, LENGTH);
        }

        int lastEnd() {
            int last = 0;
            for (int i = 0; i < size; i++) {
                last = Math.max(last, endOf(i));
            }
            return last;
        }

        /** The clip of a track at a frame, or -1. */
        int on(int track, int frame) {
            for (int i = 0; i < size; i++) {
                if (get(i, ON_TRACK) == track && get(i, START) <= frame && frame < endOf(i)) {
                    return i;
                }
            }
            return -1;
        }

        boolean isFading(int clip, int frame) {
            return frame - get(clip, START) < get(clip, FADE_IN)
                || endOf(clip) - frame <= get(clip, FADE_OUT);
        }

        boolean isFree(int track, int start, int length, int except) {
            for (int i = 0; i < size; i++) {
                if (i != except && get(i, ON_TRACK) == track
                    && start < endOf(i) && get(i, START) < start + length) {
                    return false;
                }
            }
            return true;
        }

        int usersOf(int source) {
            int users = 0;
            for (int i = 0; i < size; i++) {
                users += get(i, SOURCE) == source ? 1 : 0;
            }
            return users;
        }

        int clipsOn(int track) {
            int clips = 0;
            for (int i = 0; i < size; i++) {
                clips += get(i, ON_TRACK) == track ? 1 : 0;
            }
            return clips;
        }

        int framesOn(int track) {
            int frames = 0;
            for (int i = 0; i < size; i++) {
                frames += get(i, ON_TRACK) == track ? get(i, LENGTH) : 0;
            }
            return frames;
        }

        /** Where a clip on this track with this start stands among the others. */
        int placeFor(int track, int start) {
            int place = 0;
            for (int i = 0; i < size; i++) {
                int other = get(i, ON_TRACK);
                if (other < track || other == track && get(i, START) < start) {
                    place++;
                }
            }
            return place;
        }

        void openRow(int place) {
            int from = place * CLIP_NUMBERS;
            System.arraycopy(numbers, from, numbers, from + CLIP_NUMBERS, (size - place) * CLIP_NUMBERS);
            size++;
        }

        void closeRow(int place) {
            int from = place * CLIP_NUMBERS;
            size--;
            System.arraycopy(numbers, from + CLIP_NUMBERS, numbers, from, (size - place) * CLIP_NUMBERS);
        }

        void copyRow(int from, int to) {
            System.arraycopy(numbers, from * CLIP_NUMBERS, numbers, to * CLIP_NUMBERS, CLIP_NUMBERS);
        }

        int change(int clip, int what, int v) {
            if (!has(clip)) {
                return NONE;
            }
            if (what < 0 || what > 2 || v < 0) {
                return BAD;
            }
            int otherFade = what == 1 ? get(clip, FADE_OUT) : get(clip, FADE_IN);
            if (v > (what == 0 ? MOST_GAIN : get(clip, LENGTH) - otherFade)) {
                return BAD;
            }
            int previous = get(clip, GAIN + what);
            put(clip, GAIN + what, v);
            return previous;
        }

        int shift(int clip, int track, int start) {
            if (!has(clip) || !isTrack(track)) {
                return NONE;
            }
            if (start < 0 || start > FRAMES - get(clip, LENGTH)) {
                return BAD;
            }
            if (!isFree(track, start, get(clip, LENGTH), clip)) {
                return OVERLAP;
            }
            int place = copyTo(clip, track, start);
            int old = clip < place ? clip : clip + 1;
            closeRow(old);
            return old < place ? place - 1 : place;
        }

        int duplicate(int clip, int track, int start) {
            if (!has(clip) || !isTrack(track)) {
                return NONE;
            }
            if (start < 0 || start > FRAMES - get(clip, LENGTH)) {
                return BAD;
            }
            if (size >= MOST_CLIPS) {
                return FULL;
            }
            if (!isFree(track, start, get(clip, LENGTH), NONE)) {
                return OVERLAP;
            }
            return copyTo(clip, track, start);
        }

        int copyTo(int clip, int track, int start) {
            int place = placeFor(track, start);
            openRow(place);
            copyRow(clip < place ? clip : clip + 1, place);
            put(place, ON_TRACK, track);
            put(place, START, start);
            return place;
        }

        int divideOne(int clip, int at) {
            if (!has(clip)) {
                return NONE;
            }
            if (at < 1 || at >= get(clip, LENGTH)) {
                return BAD;
            }
            if (size >= MOST_CLIPS) {
                return FULL;
            }
            split(clip, at);
            return clip + 1;
        }

        int takeOut(int clip) {
            if (!has(clip)) {
                return NONE;
            }
            closeRow(clip);
            return size;
        }

        void split(int clip, int at) {
            int second = clip + 1;
            openRow(second);
            copyRow(clip, second);
            put(clip, LENGTH, at);
            put(clip, FADE_OUT, 0);
            fitFades(clip);
            put(second, START, get(second, START) + at);
            put(second, OFFSET, get(second, OFFSET) + at);
            put(second, LENGTH, get(second, LENGTH) - at);
            put(second, FADE_IN, 0);
            fitFades(second);
        }

        void fitFades(int clip) {
            int room = get(clip, LENGTH);
            int fadeIn = Math.min(get(clip, FADE_IN), room);
            put(clip, FADE_IN, fadeIn);
            put(clip, FADE_OUT, Math.min(get(clip, FADE_OUT), room - fadeIn));
        }

        boolean isAcross(int clip, int frame) {
            return get(clip, START) < frame && frame < endOf(clip);
        }

        int clipsAcross(int frame) {
            int clips = 0;
            for (int i = 0; i < size; i++) {
                clips += isAcross(i, frame) ? 1 : 0;
            }
            return clips;
        }

        void divideAllAt(int frame) {
            for (int i = size - 1; i >= 0; i--) {
                if (isAcross(i, frame) && size < CLIP_ROWS) {
                    split(i, frame - get(i, START));
                }
            }
        }

        int clipsAfterCut(int from, int to) {
            int clips = 0;
            for (int i = 0; i < size; i++) {
                clips += get(i, START) < from ? 1 : 0;
                clips += endOf(i) > to ? 1 : 0;
            }
            return clips;
        }

        /** Takes the frames out, at whose ends the clips are divided; the answer is how many they were. */
        int takeFrames(int from, int to) {
            int frames = 0;
            for (int i = size - 1; i >= 0; i--) {
                int start = get(i, START);
                if (start >= to) {
                    put(i, START, start - (to - from));
                } else if (start >= from) {
                    frames += get(i, LENGTH);
                    closeRow(i);
                }
            }
            return frames;
        }

        void giveFrames(int at, int length) {
            for (int i = 0; i < size; i++) {
                if (get(i, START) >= at) {
                    put(i, START, get(i, START) + length);
                }
            }
        }
    }

    /** The chapters, in ascending order of their frames. */
    private static final class Chapters {
        final int[] frames = new int[MOST_CHAPTERS];
        final int[] titles = new int[MOST_CHAPTERS];
        int size;

        boolean has(int chapter) {
            return chapter >= 0 && chapter < size;
        }

        /** The first chapter at this frame or behind it, or the number of chapters. */
        int firstFrom(int frame) {
            int chapter = 0;
            while (chapter < size && frames[chapter] < frame) {
                chapter++;
            }
            return chapter;
        }

        int titleAt(int frame) {
            int chapter = firstFrom(frame);
            return has(chapter) ? titles[chapter] : NOTHING;
        }

        int enter(int frame, int title) {
            if (!isFrame(frame) || title < 0 || title > MOST_TITLE) {
                return BAD;
            }
            int place = firstFrom(frame);
            if (!has(place) || frames[place] != frame) {
                if (size >= MOST_CHAPTERS) {
                    return FULL;
                }
                System.arraycopy(frames, place, frames, place + 1, size - place);
                System.arraycopy(titles, place, titles, place + 1, size - place);
                size++;
                frames[place] = frame;
            }
            titles[place] = title;
            return place;
        }

        int takeOut(int chapter) {
            if (!has(chapter)) {
                return NONE;
            }
            size--;
            System.arraycopy(frames, chapter + 1, frames, chapter, size - chapter);
            System.arraycopy(titles, chapter + 1, titles, chapter, size - chapter);
            return size;
        }

        void takeFrames(int from, int to) {
            int kept = 0;
            for (int i = 0; i < size; i++) {
                int frame = frames[i];
                if (frame >= to) {
                    frame -= to - from;
                } else if (frame > from) {
                    frame = from;
                }
                if (kept == 0 || frames[kept - 1] != frame) {
                    frames[kept] = frame;
                    titles[kept] = titles[i];
                    kept++;
                }
            }
            size = kept;
        }

        void giveFrames(int at, int length) {
            for (int i = firstFrom(at); i < size; i++) {
                frames[i] += length;
            }
        }
    }

    /** All that undo and the snapshot keep. */
    private static final class Project {
        final int[] settings = new int[SETTINGS];
        final int[] tracks = new int[TRACKS * TRACK_NUMBERS];
        final int[] sources = new int[MOST_SOURCES * SOURCE_NUMBERS];
        final Clips clips = new Clips();
        final Chapters chapters = new Chapters();
        int sourceCount;

        Project() {
            System.arraycopy(SETTING_AT_FIRST, 0, settings, 0, SETTINGS);
            for (int track = 0; track < TRACKS; track++) {
                System.arraycopy(TRACK_AT_FIRST, 0, tracks, track * TRACK_NUMBERS, TRACK_NUMBERS);
            }
        }

        static void copy(Project from, Project to) {
            if (from == null || to == null) {
                return;
            }
            System.arraycopy(from.settings, 0, to.settings, 0, SETTINGS);
            System.arraycopy(from.tracks, 0, to.tracks, 0, TRACKS * TRACK_NUMBERS);
            System.arraycopy(from.sources, 0, to.sources, 0, MOST_SOURCES * SOURCE_NUMBERS);
            System.arraycopy(from.clips.numbers, 0, to.clips.numbers, 0, MOST_CLIPS * CLIP_NUMBERS);
            System.arraycopy(from.chapters.frames, 0, to.chapters.frames, 0, MOST_CHAPTERS);
            System.arraycopy(from.chapters.titles, 0, to.chapters.titles, 0, MOST_CHAPTERS);
            to.sourceCount = from.sourceCount;
            to.clips.size = from.clips.size;
            to.chapters.size = from.chapters.size;
        }

        boolean hasSource(int source) {
            return source >= 0 && source < sourceCount;
        }

        int sourceNumber(int source, int what) {
            return sources[source * SOURCE_NUMBERS + what];
        }

        int putSource(int kind, int length, int a, int b) {
            if (kind < TONE || kind > NOISE || length < 1 || length > LONGEST_SOURCE
                || a < 0 || a > GREATEST || b < B_LEAST[kind] || b > B_MOST[kind]) {
                return BAD;
            }
            if (sourceCount >= MOST_SOURCES) {
                return FULL;
            }
            int row = sourceCount * SOURCE_NUMBERS;
            sources[row + KIND] = kind;
            sources[row + SOURCE_LENGTH] = length;
            sources[row + NUMBER_A] = a;
            sources[row + NUMBER_B] = b;
            sourceCount++;
            return sourceCount - 1;
        }

        int changeSetting(int what, int v) {
            if (what < 0 || what >= SETTINGS || v < SETTING_LEAST[what] || v > SETTING_MOST[what]) {
                return BAD;
            }
            int previous = settings[what];
            settings[what] = v;
            return previous;
        }

        int trackNumber(int track, int what) {
            return tracks[track * TRACK_NUMBERS + what];
        }

        boolean fitsTrack(int track, int what, int v) {
            return what >= 0 && what < TRACK_NUMBERS && v >= TRACK_LEAST[what] && v <= TRACK_MOST[what]
                && (what != DUCKER || v != track);
        }

        boolean isAudible(int track) {
            return trackNumber(track, MUTED) == 0 && (trackNumber(track, SOLO) == 1 || !isAnySolo());
        }

        boolean isAnySolo() {
            for (int track = 0; track < TRACKS; track++) {
                if (trackNumber(track, SOLO) == 1) {
                    return true;
                }
            }
            return false;
        }

        int placeClip(int track, int start, int source, int offset, int length) {
            if (!isTrack(track) || !hasSource(source)) {
                return NONE;
            }
            int there = sourceNumber(source, SOURCE_LENGTH);
            if (length < 1 || length > there || offset < 0 || offset > there - length
                || start < 0 || start > FRAMES - length) {
                return BAD;
            }
            if (clips.size >= MOST_CLIPS) {
                return FULL;
            }
            if (!clips.isFree(track, start, length, NONE)) {
                return OVERLAP;
            }
            int clip = clips.placeFor(track, start);
            clips.openRow(clip);
            clips.put(clip, ON_TRACK, track);
            clips.put(clip, START, start);
            clips.put(clip, SOURCE, source);
            clips.put(clip, OFFSET, offset);
            clips.put(clip, LENGTH, length);
            clips.put(clip, GAIN, 100);
            clips.put(clip, FADE_IN, 0);
            clips.put(clip, FADE_OUT, 0);
            return clip;
        }

        int trimClip(int clip, int side, int frames) {
            if (!clips.has(clip)) {
                return NONE;
            }
            int length = clips.get(clip, LENGTH);
            // Looked at before the subtraction, which could overflow.
            if (side < 0 || side > 1 || frames > length - 1 || frames < length - LONGEST_SOURCE) {
                return BAD;
            }
            length -= frames;
            int start = clips.get(clip, START) + (side == 0 ? frames : 0);
            int offset = clips.get(clip, OFFSET) + (side == 0 ? frames : 0);
            int there = sourceNumber(clips.get(clip, SOURCE), SOURCE_LENGTH);
            if (start < 0 || start > FRAMES - length || offset < 0 || offset > there - length) {
                return BAD;
            }
            if (!clips.isFree(clips.get(clip, ON_TRACK), start, length, clip)) {
                return OVERLAP;
            }
            clips.put(clip, START, start);
            clips.put(clip, OFFSET, offset);
            clips.put(clip, LENGTH, length);
            clips.fitFades(clip);
            return length;
        }

        int cutFrames(int from, int to) {
            if (from < 0 || from >= to || to > FRAMES) {
                return BAD;
            }
            if (clips.clipsAfterCut(from, to) > MOST_CLIPS) {
                return FULL;
            }
            chapters.takeFrames(from, to);
            clips.divideAllAt(from);
            clips.divideAllAt(to);
            return clips.takeFrames(from, to);
        }

        int insertFrames(int at, int length) {
            if (!isFrame(at) || length < 1 || length > FRAMES || !canGoBack(at, length)) {
                return BAD;
            }
            if (clips.size + clips.clipsAcross(at) > MOST_CLIPS) {
                return FULL;
            }
            chapters.giveFrames(at, length);
            clips.divideAllAt(at);
            clips.giveFrames(at, length);
            return clips.size;
        }

        boolean canGoBack(int at, int length) {
            int lastEnd = clips.lastEnd();
            if (lastEnd > at && lastEnd + length > FRAMES) {
                return false;
            }
            int last = chapters.size - 1;
            return last < 0 || chapters.frames[last] < at || chapters.frames[last] + length < FRAMES;
        }

        int framesOfChapter(int chapter) {
            int end = chapters.has(chapter + 1) ? chapters.frames[chapter + 1] : clips.lastEnd();
            return Math.max(0, end - chapters.frames[chapter]);
        }

        int events() {
            return 2 * clips.size + chapters.size;
        }

        static int eventKey(int frame, int kind, int track) {
            return (frame * EVENT_KINDS + kind) * TRACKS + track;
        }

        /** The least key of an event that is greater than this one: no two events have the same. */
        int nextEvent(int key) {
            int next = Integer.MAX_VALUE;
            for (int i = 0; i < clips.size; i++) {
                int track = clips.get(i, ON_TRACK);
                next = nearer(key, next, eventKey(clips.endOf(i), CLIP_END, track));
                next = nearer(key, next, eventKey(clips.get(i, START), CLIP_START, track));
            }
            for (int i = 0; i < chapters.size; i++) {
                next = nearer(key, next, eventKey(chapters.frames[i], CHAPTER, 0));
            }
            return next;
        }

        static int nearer(int key, int next, int other) {
            return other > key && other < next ? other : next;
        }
    }

    /** The values that follow from a project, made anew when it has changed. */
    private static final class Sound {
        final Project project;
        final int[][] values = new int[MOST_SOURCES][LONGEST_SOURCE];
        final int[][] dry = new int[TRACKS][FRAMES];
        // A bit for each track.
        final int[] ducked = new int[FRAMES];
        final int[] sums = new int[FRAMES];
        boolean stale = true;

        Sound(Project project) {
            this.project = project;
        }

        void refresh() {
            if (!stale) {
                return;
            }
            stale = false;
            for (int source = 0; source < project.sourceCount; source++) {
                fillSource(source);
            }
            fillDry();
            Arrays.fill(ducked, 0);
            Arrays.fill(sums, 0);
            for (int track = 0; track < TRACKS; track++) {
                fillDucked(track);
            }
            for (int track = 0; track < TRACKS; track++) {
                if (project.isAudible(track)) {
                    addTrack(track);
                }
            }
        }

        void fillSource(int source) {
            int kind = project.sourceNumber(source, KIND);
            int length = Math.min(LONGEST_SOURCE, project.sourceNumber(source, SOURCE_LENGTH));
            int a = project.sourceNumber(source, NUMBER_A);
            int b = project.sourceNumber(source, NUMBER_B);
            int z = b;
            for (int i = 0; i < length; i++) {
                int v = a;
                if (kind == RAMP) {
                    v = a + (b - a) * i / length;
                } else if (kind == PULSE) {
                    v = i / Math.max(1, b) % 2 == 0 ? a : 0;
                } else if (kind == NOISE) {
                    z = z * 1103515245 + 12345;
                    v = (z >>> 16) % Math.max(1, a + 1);
                }
                values[source][i] = v;
            }
        }

        void fillDry() {
            for (int track = 0; track < TRACKS; track++) {
                Arrays.fill(dry[track], 0);
            }
            for (int clip = 0; clip < project.clips.size; clip++) {
                int track = project.clips.get(clip, ON_TRACK);
                int start = project.clips.get(clip, START);
                int volume = project.trackNumber(track, VOLUME);
                for (int k = 0; k < project.clips.get(clip, LENGTH); k++) {
                    dry[track][start + k] = clipValue(clip, k) * volume / 100;
                }
            }
        }

        void fillDucked(int track) {
            int ducker = project.trackNumber(track, DUCKER);
            if (!isTrack(ducker)) {
                return;
            }
            int threshold = project.trackNumber(track, THRESHOLD);
            int hold = project.trackNumber(track, HOLD);
            int since = hold + 1;
            for (int frame = 0; frame < FRAMES; frame++) {
                since = dry[ducker][frame] >= threshold ? 0 : since + 1;
                if (since <= hold) {
                    ducked[frame] |= 1 << track;
                }
            }
        }

        void addTrack(int track) {
            for (int frame = 0; frame < FRAMES; frame++) {
                sums[frame] += wetAt(track, frame);
            }
        }

        int sourceAt(int source, int frame) {
            return values[source][frame];
        }

        int clipValue(int clip, int k) {
            Clips clips = project.clips;
            int v = sourceAt(clips.get(clip, SOURCE), clips.get(clip, OFFSET) + k);
            v = v * clips.get(clip, GAIN) / 100;
            int fadeIn = clips.get(clip, FADE_IN);
            if (k < fadeIn) {
                v = faded(v, k + 1, fadeIn + 1);
            }
            int left = clips.get(clip, LENGTH) - k;
            int fadeOut = clips.get(clip, FADE_OUT);
            if (left <= fadeOut) {
                v = faded(v, left, fadeOut + 1);
            }
            return Math.min(v, GREATEST);
        }

        int faded(int v, int p, int q) {
            int shape = project.settings[SHAPE];
            if (shape == 2 || q < 1) {
                return 2 * p < q ? 0 : v;
            }
            return shape == 0 ? v * p / q : v * p * p / (q * q);
        }

        int greatestOfSource(int source) {
            int greatest = 0;
            for (int i = 0; i < project.sourceNumber(source, SOURCE_LENGTH); i++) {
                greatest = Math.max(greatest, sourceAt(source, i));
            }
            return greatest;
        }

        int greatestOfClip(int clip) {
            int greatest = 0;
            for (int k = 0; k < project.clips.get(clip, LENGTH); k++) {
                greatest = Math.max(greatest, clipValue(clip, k));
            }
            return greatest;
        }

        int sumOfClip(int clip) {
            int sum = 0;
            for (int k = 0; k < project.clips.get(clip, LENGTH); k++) {
                sum += clipValue(clip, k);
            }
            return sum;
        }

        int valueOnTrack(int track, int frame) {
            int clip = project.clips.on(track, frame);
            return clip < 0 ? 0 : clipValue(clip, frame - project.clips.get(clip, START));
        }

        int dryAt(int track, int frame) {
            return dry[track][frame];
        }

        boolean isDucked(int track, int frame) {
            return (ducked[frame] >> track & 1) == 1;
        }

        int wetAt(int track, int frame) {
            int v = dry[track][frame];
            return isDucked(track, frame) ? v * (100 - project.trackNumber(track, AMOUNT)) / 100 : v;
        }

        int duckedFrames(int track) {
            int end = project.clips.lastEnd();
            int frames = 0;
            for (int frame = 0; frame < end; frame++) {
                frames += isDucked(track, frame) ? 1 : 0;
            }
            return frames;
        }

        int greatestOfTrack(int track) {
            int greatest = 0;
            for (int frame = 0; frame < FRAMES; frame++) {
                greatest = Math.max(greatest, wetAt(track, frame));
            }
            return greatest;
        }

        int unlimitedAt(int frame) {
            return sums[frame] * project.settings[MASTER] / 100;
        }

        int mixAt(int frame) {
            return Math.min(GREATEST, unlimitedAt(frame));
        }

        int greatestMix(int from, int length) {
            int to = Math.min(FRAMES, from + length);
            int greatest = 0;
            for (int frame = from; frame < to; frame++) {
                greatest = Math.max(greatest, mixAt(frame));
            }
            return greatest;
        }

        int frameOfGreatestMix() {
            int at = 0;
            for (int frame = 1; frame < FRAMES; frame++) {
                if (mixAt(frame) > mixAt(at)) {
                    at = frame;
                }
            }
            return at;
        }

        int framesOver() {
            int frames = 0;
            for (int frame = 0; frame < FRAMES; frame++) {
                frames += unlimitedAt(frame) > GREATEST ? 1 : 0;
            }
            return frames;
        }

        int sumOfMix() {
            int sum = 0;
            for (int frame = 0; frame < FRAMES; frame++) {
                sum += mixAt(frame);
            }
            return sum;
        }
    }

    /** What the windows of a sound answer. */
    private static final class Loudness {
        final Project project;
        final Sound sound;
        final int[] levels = new int[MOST_WINDOWS];
        final int[] windowsOfLevel = new int[MOST_WINDOWS];
        final int[] squaresUpTo = new int[FRAMES + 1];
        int windows;
        int quiet;
        int low;
        int mean;
        int loudest;

        Loudness(Project project, Sound sound) {
            this.project = project;
            this.sound = sound;
        }

        int window() {
            return Math.max(LEAST_WINDOW, project.settings[WINDOW]);
        }

        void measure(int master) {
            fillLevels(master);
            int gate = project.settings[GATE] * project.settings[GATE];
            int sum = 0;
            quiet = 0;
            for (int k = 0; k < windows; k++) {
                if (levels[k] < gate) {
                    quiet++;
                } else {
                    sum += levels[k];
                }
            }
            mean = windows > quiet ? sum / (windows - quiet) : 0;
            int bar = mean * project.settings[SHARE];
            sum = 0;
            low = 0;
            for (int k = 0; k < windows; k++) {
                if (levels[k] >= gate && 100 * levels[k] < bar) {
                    low++;
                } else if (levels[k] >= gate) {
                    sum += levels[k];
                }
            }
            int loud = windows - quiet - low;
            loudest = loud > 0 ? sum / loud : 0;
        }

        void fillLevels(int master) {
            int window = window();
            windows = (project.clips.lastEnd() + window - 1) / window;
            for (int k = 0; k < windows; k++) {
                int to = Math.min(FRAMES, (k + 1) * window);
                int squares = 0;
                for (int frame = k * window; frame < to; frame++) {
                    int v = Math.min(GREATEST, sound.sums[frame] * master / 100);
                    squares += v * v;
                }
                levels[k] = squares / window;
            }
        }

        int secondWay() {
            for (int frame = 0; frame < FRAMES; frame++) {
                int v = sound.mixAt(frame);
                squaresUpTo[frame + 1] = squaresUpTo[frame] + v * v;
            }
            int different = sortLevels();
            int gate = project.settings[GATE] * project.settings[GATE];
            int first = 0;
            while (first < different && levels[first] < gate) {
                first++;
            }
            int bar = meanFrom(first, different) * project.settings[SHARE];
            while (first < different && 100 * levels[first] < bar) {
                first++;
            }
            return meanFrom(first, different);
        }

        /** Puts the different levels in ascending order; the answer is how many they are. */
        int sortLevels() {
            int window = window();
            int end = project.clips.lastEnd();
            int different = 0;
            for (int from = 0; from < end; from += window) {
                int to = Math.min(FRAMES, from + window);
                int level = (squaresUpTo[to] - squaresUpTo[from]) / window;
                int place = 0;
                while (place < different && levels[place] < level) {
                    place++;
                }
                if (place < different && levels[place] == level) {
                    windowsOfLevel[place]++;
                } else {
                    System.arraycopy(levels, place, levels, place + 1, different - place);
                    System.arraycopy(windowsOfLevel, place, windowsOfLevel, place + 1, different - place);
                    levels[place] = level;
                    windowsOfLevel[place] = 1;
                    different++;
                }
            }
            return different;
        }

        int meanFrom(int first, int different) {
            int sum = 0;
            int number = 0;
            for (int i = first; i < different; i++) {
                sum += levels[i] * windowsOfLevel[i];
                number += windowsOfLevel[i];
            }
            return number > 0 ? sum / number : 0;
        }
    }

    /** The silences that were found last. */
    private static final class Silences {
        final Project project;
        final Sound sound;
        final int[] firsts = new int[MOST_SILENCES];
        final int[] lengths = new int[MOST_SILENCES];
        int found;

        Silences(Project project, Sound sound) {
            this.project = project;
            this.sound = sound;
        }

        void find(int v, int n) {
            int end = project.clips.lastEnd();
            int length = 0;
            found = 0;
            for (int frame = 0; frame < end; frame++) {
                if (sound.mixAt(frame) < v) {
                    length++;
                } else {
                    add(frame - length, length, n);
                    length = 0;
                }
            }
            add(end - length, length, n);
        }

        void add(int first, int length, int n) {
            if (length >= n && found < MOST_SILENCES) {
                firsts[found] = first;
                lengths[found] = length;
                found++;
            }
        }
    }

    /** The steps, as the states behind each of them, and the group. */
    private static final class History {
        final Project[] states = new Project[MOST_STEPS + 1];
        int oldest;
        int undoable;
        int redoable;
        int changes;
        boolean isOpen;

        History() {
            for (int i = 0; i <= MOST_STEPS; i++) {
                states[i] = new Project();
            }
        }

        Project behind(int steps) {
            return states[(oldest + steps) % (MOST_STEPS + 1)];
        }

        void note(Project now) {
            redoable = 0;
            if (isOpen) {
                changes++;
            } else {
                keep(now);
            }
        }

        void keep(Project now) {
            if (undoable == MOST_STEPS) {
                oldest = (oldest + 1) % (MOST_STEPS + 1);
            } else {
                undoable++;
            }
            Project.copy(now, behind(undoable));
        }

        void goBack(Project now) {
            undoable--;
            redoable++;
            Project.copy(behind(undoable), now);
        }

        void goOn(Project now) {
            undoable++;
            redoable--;
            Project.copy(behind(undoable), now);
        }

        void startFrom(Project now) {
            undoable = 0;
            redoable = 0;
            Project.copy(now, behind(0));
        }
    }

    /** The text of commands, and what was read from it. */
    private static final class Script {
        final int[] codes = new int[MOST_TEXT];
        final int[] letters = new int[MOST_COMMANDS];
        final int[] firsts = new int[MOST_COMMANDS];
        final int[] seconds = new int[MOST_COMMANDS];
        int length;
        int commands;
        int place;

        int add(int code) {
            if (length >= MOST_TEXT) {
                return FULL;
            }
            codes[length] = code;
            length++;
            return length;
        }

        /** Reads the text; the answer is its fault position, or -1 if there is none. */
        int read() {
            commands = 0;
            place = 0;
            for (int i = 0; i < MOST_COMMANDS; i++) {
                if (!readCommand()) {
                    return place;
                }
                if (place == length) {
                    return -1;
                }
                if (here() != ';') {
                    return place;
                }
                place++;
            }
            return place;
        }

        int here() {
            return place < length ? codes[place] : -1;
        }

        boolean readCommand() {
            int letter = here();
            int sign = signOf(letter);
            if (sign == NONE) {
                return false;
            }
            place++;
            letters[commands] = letter;
            firsts[commands] = readNumber();
            seconds[commands] = 0;
            if (firsts[commands] < 0) {
                return false;
            }
            if (sign != NOTHING) {
                if (here() != sign) {
                    return false;
                }
                place++;
                seconds[commands] = readNumber();
            }
            commands++;
            return seconds[commands - 1] >= 0;
        }

        /** The sign between the numbers of a command, NOTHING if it has one number, NONE for no command. */
        static int signOf(int letter) {
            switch (letter) {
                case 'x':
                    return '-';
                case 'i':
                    return '+';
                case 'd':
                    return NOTHING;
                case 's':
                case 'm':
                    return '@';
                case 'c':
                    return '=';
                default:
                    return NONE;
            }
        }

        int readNumber() {
            int number = 0;
            int digits = 0;
            while (digits < 3 && here() >= '0' && here() <= '9') {
                number = number * 10 + here() - '0';
                digits++;
                place++;
            }
            return digits == 0 ? NONE : number;
        }
    }

    /** The written text. */
    private static final class Writing {
        final int[] codes = new int[MOST_WRITTEN];
        int length;

        void add(int code) {
            if (length < MOST_WRITTEN) {
                codes[length] = code;
                length++;
            }
        }

        void addNumber(int number) {
            if (number >= 100) {
                add('0' + number / 100 % 10);
            }
            if (number >= 10) {
                add('0' + number / 10 % 10);
            }
            add('0' + number % 10);
        }
    }
}
