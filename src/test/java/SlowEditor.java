import java.util.ArrayList;
import java.util.Arrays;
import java.util.Comparator;
import java.util.List;
import java.util.Map;
import java.util.TreeMap;
import java.util.regex.Matcher;
import java.util.regex.Pattern;

/**
 * A second editor, written from the document alone, frame by frame and without any care for speed,
 * with none of the first one's rows.
 */
final class SlowEditor {
    static final int NONE = -1, BAD = -2, FULL = -3, OVERLAP = -4, REFUSED = -5, NOTHING = -6;

    record Source(int kind, int length, int a, int b) {
        List<Integer> values() {
            List<Integer> values = new ArrayList<>();
            long z = b;
            for (int i = 0; i < length; i++) {
                z = (int) (z * 1103515245L + 12345L);
                switch (kind) {
                    case 0: values.add(a); break;
                    case 1: values.add((int) (a + Math.signum(b - a) * (Math.abs(b - a) * i / length))); break;
                    case 2: values.add(Math.floorDiv(i, b) % 2 == 0 ? a : 0); break;
                    default: values.add((int) (((z & 0xffffffffL) / 65536) % (a + 1))); break;
                }
            }
            return values;
        }
    }

    record Clip(int track, int start, int source, int offset, int length, int gain, int in, int out) {
        int end() {
            return start + length;
        }

        /** The part from one of its frames to another one, with fades as asked, shortened to fit. */
        Clip part(int from, int to, int newIn, int newOut) {
            int n = to - from;
            int i = newIn;
            int o = newOut;
            while (i + o > n && o > 0) {
                o--;
            }
            while (i + o > n) {
                i--;
            }
            return new Clip(track, start + from, source, offset + from, n, gain, i, o);
        }

        Clip at(int newTrack, int newStart) {
            return new Clip(newTrack, newStart, source, offset, length, gain, in, out);
        }

        boolean touches(Clip other) {
            boolean shared = false;
            for (int f = start; f < end(); f++) {
                shared |= track == other.track && f >= other.start && f < other.end();
            }
            return shared;
        }
    }

    static final class State {
        final List<Source> sources = new ArrayList<>();
        final List<Clip> clips = new ArrayList<>();
        final TreeMap<Integer, Integer> chapters = new TreeMap<>();
        final int[] settings = {100, 10, 10, 25, 0};
        final int[][] tracks = new int[4][];
        int[] wets;

        State() {
            for (int t = 0; t < 4; t++) {
                tracks[t] = new int[] {100, 0, 0, -1, 100, 50, 5};
            }
        }

        State copy() {
            State s = new State();
            s.sources.addAll(sources);
            s.clips.addAll(clips);
            s.chapters.putAll(chapters);
            System.arraycopy(settings, 0, s.settings, 0, 5);
            for (int t = 0; t < 4; t++) {
                s.tracks[t] = tracks[t].clone();
            }
            return s;
        }

        int put(Clip clip) {
            clips.add(clip);
            clips.sort(Comparator.comparingInt(Clip::track).thenComparingInt(Clip::start));
            return clips.indexOf(clip);
        }

        boolean collides(Clip clip, Clip except) {
            return clips.stream().anyMatch(c -> c != except && c.touches(clip));
        }

        int end() {
            return clips.stream().mapToInt(Clip::end).max().orElse(0);
        }

        Clip clipAt(int track, int frame) {
            return clips.stream().filter(c -> c.track == track && c.start <= frame && frame < c.end())
                .findFirst().orElse(null);
        }

        int fade(int v, int p, int q) {
            return settings[4] == 0 ? v * p / q : settings[4] == 1 ? v * p * p / (q * q) : 2 * p < q ? 0 : v;
        }

        int clipValue(Clip c, int k) {
            int v = sources.get(c.source).values().get(c.offset + k) * c.gain / 100;
            if (k < c.in) {
                v = fade(v, k + 1, c.in + 1);
            }
            int m = c.length - k;
            if (m <= c.out) {
                v = fade(v, m, c.out + 1);
            }
            return v > 999 ? 999 : v;
        }

        int value(int track, int frame) {
            Clip c = clipAt(track, frame);
            return c == null ? 0 : clipValue(c, frame - c.start);
        }

        int dry(int track, int frame) {
            return value(track, frame) * tracks[track][0] / 100;
        }

        boolean ducked(int track, int frame) {
            int ducker = tracks[track][3];
            for (int f = Math.max(0, frame - tracks[track][6]); ducker >= 0 && f <= frame; f++) {
                if (dry(ducker, f) >= tracks[track][4]) {
                    return true;
                }
            }
            return false;
        }

        int wet(int track, int frame) {
            int v = dry(track, frame);
            return v != 0 && ducked(track, frame) ? v * (100 - tracks[track][5]) / 100 : v;
        }

        boolean audible(int track) {
            boolean solo = Arrays.stream(tracks).anyMatch(t -> t[2] == 1);
            return tracks[track][1] == 0 && (tracks[track][2] == 1 || !solo);
        }

        /** Kept for a state, which does not change once it is asked. */
        int wetSum(int frame) {
            if (wets == null) {
                wets = new int[600];
                for (int f = 0; f < 600; f++) {
                    for (int t = 0; t < 4; t++) {
                        wets[f] += audible(t) ? wet(t, f) : 0;
                    }
                }
            }
            return wets[frame];
        }

        int full(int frame, int master) {
            return frame >= 600 ? 0 : wetSum(frame) * master / 100;
        }

        int mix(int frame, int master) {
            return Math.min(999, full(frame, master));
        }

        int mix(int frame) {
            return mix(frame, settings[0]);
        }

        int[] loudness(int master) {
            List<Integer> levels = levels(master);
            int gate = settings[2] * settings[2];
            List<Integer> heard = levels.stream().filter(l -> l >= gate).toList();
            int mean = mean(heard);
            List<Integer> loud = heard.stream().filter(l -> 100L * l >= (long) mean * settings[3]).toList();
            return new int[] {levels.size(), levels.size() - heard.size(), heard.size() - loud.size(), mean, mean(loud)};
        }

        List<Integer> levels(int master) {
            int w = settings[1];
            List<Integer> levels = new ArrayList<>();
            for (int k = 0; k * w < end(); k++) {
                long squares = 0;
                for (int f = k * w; f < k * w + w; f++) {
                    squares += (long) mix(f, master) * mix(f, master);
                }
                levels.add((int) (squares / w));
            }
            return levels;
        }

        static int mean(List<Integer> levels) {
            long sum = levels.stream().mapToLong(l -> l).sum();
            return levels.isEmpty() ? 0 : (int) (sum / levels.size());
        }

        List<int[]> silences(int v, int n) {
            StringBuilder frames = new StringBuilder();
            for (int f = 0; f < end(); f++) {
                frames.append(mix(f) < v ? '.' : '#');
            }
            Matcher matcher = Pattern.compile("\\.{" + n + ",}").matcher(frames);
            List<int[]> silences = new ArrayList<>();
            while (matcher.find()) {
                silences.add(new int[] {matcher.start(), matcher.end() - matcher.start()});
            }
            return silences;
        }

        List<int[]> events() {
            List<int[]> events = new ArrayList<>();
            for (Clip c : clips) {
                events.add(new int[] {c.end(), 0, c.track});
                events.add(new int[] {c.start, 2, c.track});
            }
            chapters.forEach((frame, title) -> events.add(new int[] {frame, 1, title}));
            events.sort((x, y) -> x[0] != y[0] ? x[0] - y[0] : x[1] != y[1] ? x[1] - y[1] : x[2] - y[2]);
            return events;
        }

        int chapterFrame(int chapter) {
            return new ArrayList<>(chapters.keySet()).get(chapter);
        }
    }

    interface Edit {
        int on(State s);
    }

    State now = new State();
    State saved;
    State groupStart;
    int groupChanges;
    final List<State> past = new ArrayList<>();
    final List<State> future = new ArrayList<>();
    String text = "";
    String written = "";
    int[] refused;

    /** Tries an edit on a copy, which becomes the state if it is no error. */
    int change(Edit edit) {
        State next = now.copy();
        int answer = edit.on(next);
        if (answer >= 0) {
            take(next);
        }
        return answer;
    }

    void take(State next) {
        future.clear();
        if (groupStart == null) {
            push(now);
        } else {
            groupChanges++;
        }
        now = next;
    }

    void push(State old) {
        past.add(old);
        if (past.size() > 10) {
            past.remove(0);
        }
    }

    int addSource(int kind, int length, int a, int b) {
        boolean fits = kind == 0 && b == 0 || kind == 1 && b >= 0 && b <= 999
            || kind == 2 && b >= 1 && b <= 99 || kind == 3 && b >= 0 && b <= 999;
        if (!fits || length < 1 || length > 200 || a < 0 || a > 999) {
            return BAD;
        }
        if (now.sources.size() == 6) {
            return FULL;
        }
        return change(s -> {
            s.sources.add(new Source(kind, length, a, b));
            return s.sources.size() - 1;
        });
    }

    int source(int source, int what) {
        if (source < 0 || source >= now.sources.size()) {
            return NONE;
        }
        Source s = now.sources.get(source);
        switch (what) {
            case 0: return s.kind;
            case 1: return s.length;
            case 2: return s.a;
            case 3: return s.b;
            case 4: return (int) now.clips.stream().filter(c -> c.source == source).count();
            case 5: return s.values().stream().mapToInt(v -> v).max().orElse(0);
            default: return BAD;
        }
    }

    int sourceValue(int source, int frame) {
        if (source < 0 || source >= now.sources.size()) {
            return NONE;
        }
        List<Integer> values = now.sources.get(source).values();
        return frame < 0 || frame >= values.size() ? NONE : values.get(frame);
    }

    int set(int what, int v) {
        int[][] ranges = {{0, 400}, {4, 50}, {0, 999}, {0, 100}, {0, 2}};
        if (what < 0 || what > 4 || v < ranges[what][0] || v > ranges[what][1]) {
            return BAD;
        }
        int old = now.settings[what];
        change(s -> {
            s.settings[what] = v;
            return 0;
        });
        return old;
    }

    int setTrack(int track, int what, int v) {
        if (track < 0 || track > 3) {
            return NONE;
        }
        int[][] ranges = {{0, 200}, {0, 1}, {0, 1}, {-1, 3}, {0, 999}, {0, 100}, {0, 20}};
        if (what < 0 || what > 6 || v < ranges[what][0] || v > ranges[what][1] || what == 3 && v == track) {
            return BAD;
        }
        int old = now.tracks[track][what];
        change(s -> {
            s.tracks[track][what] = v;
            return 0;
        });
        return what == 3 && old == -1 ? NOTHING : old;
    }

    int track(int track, int what) {
        if (track < 0 || track > 3) {
            return NONE;
        }
        if (what >= 0 && what <= 6) {
            int v = now.tracks[track][what];
            return what == 3 && v == -1 ? NOTHING : v;
        }
        int number = 0;
        switch (what) {
            case 7: return now.audible(track) ? 1 : 0;
            case 8: return (int) now.clips.stream().filter(c -> c.track == track).count();
            case 9: return covered(track);
            case 10:
                for (int f = 0; f < now.end(); f++) {
                    number += now.ducked(track, f) ? 1 : 0;
                }
                return number;
            case 11:
                for (int f = 0; f < 600; f++) {
                    number = Math.max(number, now.wet(track, f));
                }
                return number;
            default: return BAD;
        }
    }

    static boolean has(State s, int clip) {
        return clip >= 0 && clip < s.clips.size();
    }

    static int addClip(State s, int track, int start, int source, int offset, int length) {
        if (track < 0 || track > 3 || source < 0 || source >= s.sources.size()) {
            return NONE;
        }
        if (start < 0 || start > 599 || offset < 0 || length < 1
            || (long) offset + length > s.sources.get(source).length || (long) start + length > 600) {
            return BAD;
        }
        Clip clip = new Clip(track, start, source, offset, length, 100, 0, 0);
        return s.clips.size() == 24 ? FULL : s.collides(clip, null) ? OVERLAP : s.put(clip);
    }

    int clip(int clip, int what) {
        if (!has(now, clip)) {
            return NONE;
        }
        Clip c = now.clips.get(clip);
        int[] numbers = {c.track, c.start, c.source, c.offset, c.length, c.gain, c.in, c.out, 0, 0};
        for (int k = 0; k < c.length; k++) {
            numbers[8] = Math.max(numbers[8], now.clipValue(c, k));
            numbers[9] += now.clipValue(c, k);
        }
        return what < 0 || what > 9 ? BAD : numbers[what];
    }

    static int setClip(State s, int clip, int what, int v) {
        if (!has(s, clip)) {
            return NONE;
        }
        Clip c = s.clips.get(clip);
        if (what < 0 || what > 2 || v < 0 || v > 200) {
            return BAD;
        }
        int in = what == 1 ? v : c.in;
        int out = what == 2 ? v : c.out;
        if (in + out > c.length) {
            return BAD;
        }
        s.clips.set(clip, new Clip(c.track, c.start, c.source, c.offset, c.length, what == 0 ? v : c.gain, in, out));
        return what == 0 ? c.gain : what == 1 ? c.in : c.out;
    }

    static int moveClip(State s, int clip, int track, int start) {
        if (!has(s, clip) || track < 0 || track > 3) {
            return NONE;
        }
        Clip c = s.clips.get(clip);
        if (start < 0 || (long) start + c.length > 600) {
            return BAD;
        }
        s.clips.remove(clip);
        Clip moved = c.at(track, start);
        return s.collides(moved, null) ? OVERLAP : s.put(moved);
    }

    static int copyClip(State s, int clip, int track, int start) {
        if (!has(s, clip) || track < 0 || track > 3) {
            return NONE;
        }
        Clip c = s.clips.get(clip);
        if (start < 0 || (long) start + c.length > 600) {
            return BAD;
        }
        Clip copy = c.at(track, start);
        return s.clips.size() == 24 ? FULL : s.collides(copy, null) ? OVERLAP : s.put(copy);
    }

    static int trim(State s, int clip, int side, int frames) {
        if (!has(s, clip)) {
            return NONE;
        }
        Clip c = s.clips.get(clip);
        long from = side == 0 ? frames : 0;
        long to = side == 0 ? c.length : c.length - (long) frames;
        if (side != 0 && side != 1 || to - from < 1 || c.start + from < 0 || c.start + to > 600
            || c.offset + from < 0 || c.offset + to > s.sources.get(c.source).length) {
            return BAD;
        }
        Clip part = c.part((int) from, (int) to, c.in, c.out);
        if (s.collides(part, c)) {
            return OVERLAP;
        }
        s.clips.set(clip, part);
        return part.length;
    }

    static int divide(State s, int clip, int at) {
        if (!has(s, clip)) {
            return NONE;
        }
        Clip c = s.clips.get(clip);
        if (at < 1 || at > c.length - 1) {
            return BAD;
        }
        if (s.clips.size() == 24) {
            return FULL;
        }
        s.clips.remove(clip);
        s.put(c.part(0, at, c.in, 0));
        return s.put(c.part(at, c.length, 0, c.out));
    }

    static int remove(State s, int clip) {
        if (!has(s, clip)) {
            return NONE;
        }
        s.clips.remove(clip);
        return s.clips.size();
    }

    int room(int track, int from, int length) {
        if (track < 0 || track > 3) {
            return NONE;
        }
        if (from < 0 || from > 599 || length < 1 || length > 600) {
            return BAD;
        }
        for (int start = from; start + length <= 600; start++) {
            if (!now.collides(new Clip(track, start, 0, 0, length, 0, 0, 0), null)) {
                return start;
            }
        }
        return NOTHING;
    }

    int clipAt(int track, int frame) {
        if (track < 0 || track > 3 || frame < 0 || frame > 599) {
            return NONE;
        }
        Clip c = now.clipAt(track, frame);
        return c == null ? NOTHING : now.clips.indexOf(c);
    }

    int explain(int track, int frame) {
        int at = clipAt(track, frame);
        if (at == NONE) {
            return NONE;
        }
        if (at == NOTHING) {
            return 1;
        }
        Clip c = now.clips.get(at);
        int k = frame - c.start;
        return now.tracks[track][1] == 1 ? 2 : !now.audible(track) ? 3 : now.ducked(track, frame) ? 4
            : k < c.in || k >= c.length - c.out ? 5 : 0;
    }

    static int cut(State s, int from, int to) {
        if (from < 0 || from >= to || to > 600) {
            return BAD;
        }
        int lost = 0;
        List<Clip> parts = new ArrayList<>();
        for (Clip c : s.clips) {
            int behind = Math.max(0, c.end() - Math.max(to, c.start));
            int ahead = Math.max(0, Math.min(from, c.end()) - c.start);
            lost += c.length - behind - ahead;
            if (ahead == c.length) {
                parts.add(c);
            } else if (behind == c.length) {
                parts.add(c.at(c.track, c.start - (to - from)));
            } else {
                if (ahead > 0) {
                    parts.add(c.part(0, ahead, c.in, 0));
                }
                if (behind > 0) {
                    parts.add(c.part(c.length - behind, c.length, 0, c.out).at(c.track, from));
                }
            }
        }
        if (parts.size() > 24) {
            return FULL;
        }
        s.clips.clear();
        parts.forEach(s::put);
        TreeMap<Integer, Integer> moved = new TreeMap<>();
        s.chapters.forEach((f, title) -> moved.putIfAbsent(f < from ? f : f < to ? from : f - (to - from), title));
        s.chapters.clear();
        s.chapters.putAll(moved);
        return lost;
    }

    static int insert(State s, int at, int length) {
        if (at < 0 || at > 599 || length < 1 || length > 600) {
            return BAD;
        }
        List<Clip> parts = new ArrayList<>();
        for (Clip c : s.clips) {
            if (c.end() > at && c.end() + length > 600) {
                return BAD;
            }
            if (c.end() <= at) {
                parts.add(c);
            } else if (c.start >= at) {
                parts.add(c.at(c.track, c.start + length));
            } else {
                parts.add(c.part(0, at - c.start, c.in, 0));
                parts.add(c.part(at - c.start, c.length, 0, c.out).at(c.track, at + length));
            }
        }
        TreeMap<Integer, Integer> moved = new TreeMap<>();
        for (Map.Entry<Integer, Integer> e : s.chapters.entrySet()) {
            moved.put(e.getKey() < at ? e.getKey() : e.getKey() + length, e.getValue());
        }
        if (!moved.isEmpty() && moved.lastKey() > 599) {
            return BAD;
        }
        if (parts.size() > 24) {
            return FULL;
        }
        s.clips.clear();
        parts.forEach(s::put);
        s.chapters.clear();
        s.chapters.putAll(moved);
        return parts.size();
    }

    static int chapter(State s, int frame, int title) {
        if (frame < 0 || frame > 599 || title < 0 || title > 99) {
            return BAD;
        }
        if (!s.chapters.containsKey(frame) && s.chapters.size() == 12) {
            return FULL;
        }
        s.chapters.put(frame, title);
        return s.chapters.headMap(frame).size();
    }

    static int dropChapter(State s, int chapter) {
        if (chapter < 0 || chapter >= s.chapters.size()) {
            return NONE;
        }
        s.chapters.remove(s.chapterFrame(chapter));
        return s.chapters.size();
    }

    int ofChapter(int chapter, int what) {
        if (chapter < 0 || chapter >= now.chapters.size()) {
            return NONE;
        }
        int frame = now.chapterFrame(chapter);
        int to = chapter + 1 < now.chapters.size() ? now.chapterFrame(chapter + 1) : Math.max(frame, now.end());
        int greatest = 0;
        for (int f = frame; f < to; f++) {
            greatest = Math.max(greatest, now.mix(f));
        }
        int[] numbers = {frame, now.chapters.get(frame), to - frame, greatest};
        return what < 0 || what > 3 ? BAD : numbers[what];
    }

    int chapterAt(int frame) {
        if (frame < 0 || frame > 599) {
            return NONE;
        }
        int upTo = now.chapters.headMap(frame, true).size();
        return upTo == 0 ? NOTHING : upTo - 1;
    }

    int value(int track, int frame, int what) {
        if (track < 0 || track > 3 || frame < 0 || frame > 599) {
            return NONE;
        }
        switch (what) {
            case 0: return now.value(track, frame);
            case 1: return now.dry(track, frame);
            case 2: return now.wet(track, frame);
            case 3: return now.ducked(track, frame) ? 1 : 0;
            default: return BAD;
        }
    }

    int mix(int frame) {
        return frame < 0 || frame > 599 ? NONE : now.mix(frame);
    }

    int peak(int what) {
        int greatest = 0;
        int first = 0;
        int over = 0;
        int sum = 0;
        for (int f = 599; f >= 0; f--) {
            over += now.full(f, now.settings[0]) > 999 ? 1 : 0;
            sum += now.mix(f);
            first = now.mix(f) >= greatest ? f : first;
            greatest = Math.max(greatest, now.mix(f));
        }
        int[] numbers = {now.end(), greatest, first, over, sum};
        return what < 0 || what > 4 ? BAD : numbers[what];
    }

    int level(int window) {
        List<Integer> levels = now.levels(now.settings[0]);
        return window < 0 || window >= levels.size() ? NONE : levels.get(window);
    }

    int loudness(int what) {
        return what < 0 || what > 4 ? BAD : now.loudness(now.settings[0])[what];
    }

    static int masterFor(State s, int target) {
        if (target < 1 || target > 999) {
            return BAD;
        }
        int best = NOTHING;
        for (int master = 1; master <= 400; master++) {
            if (s.loudness(master)[4] <= target * target) {
                best = master;
            }
        }
        return best;
    }

    static int normalize(State s, int target) {
        int master = masterFor(s, target);
        if (master > 0) {
            s.settings[0] = master;
            s.wets = null;
        }
        return master;
    }

    int covered(int track) {
        if (track < 0 || track > 3) {
            return NONE;
        }
        return now.clips.stream().filter(c -> c.track == track).mapToInt(Clip::length).sum();
    }

    int silence(int v, int n, int silence, int what) {
        if (v < 1 || v > 999 || n < 1 || n > 600) {
            return BAD;
        }
        List<int[]> silences = now.silences(v, n);
        if (silence == -1) {
            return silences.size();
        }
        if (silence < 0 || silence >= silences.size()) {
            return NONE;
        }
        return what < 0 || what > 1 ? BAD : silences.get(silence)[what];
    }

    static int tighten(State s, int v, int n) {
        if (v < 1 || v > 999 || n < 1 || n > 600) {
            return BAD;
        }
        List<int[]> silences = s.silences(v, n);
        s.wets = null;
        int frames = 0;
        for (int i = silences.size() - 1; i >= 0; i--) {
            int[] silence = silences.get(i);
            if (silence[1] > n && cut(s, silence[0] + n, silence[0] + silence[1]) == FULL) {
                return FULL;
            }
            frames += silence[1] - n;
        }
        return frames;
    }

    int ifCut(int from, int to, int what) {
        if (what < 0 || what > 3) {
            return BAD;
        }
        State then = now.copy();
        int answer = cut(then, from, to);
        if (answer < 0) {
            return answer;
        }
        int[] numbers = {then.end(), then.loudness(then.settings[0])[4], then.clips.size(), then.chapters.size()};
        return numbers[what];
    }

    int event(int event, int what) {
        List<int[]> events = now.events();
        if (event < 0 || event >= events.size()) {
            return NONE;
        }
        return what < 0 || what > 2 ? BAD : events.get(event)[what];
    }

    int append(int code) {
        if (code < 32 || code > 126) {
            return BAD;
        }
        if (text.length() == 60) {
            return FULL;
        }
        text += (char) code;
        return text.length();
    }

    static final Pattern COMMAND = Pattern.compile("([xismcd])([0-9]{1,3})(?:[-+@=]([0-9]{1,3}))?");
    static final Pattern TEXT = Pattern.compile(commandForm() + "(;" + commandForm() + ")*");

    static String commandForm() {
        String n = "[0-9]{1,3}";
        return "(x" + n + "-" + n + "|i" + n + "\\+" + n + "|d" + n + "|[sm]" + n + "@" + n + "|c" + n + "=" + n + ")";
    }

    static boolean canContinue(String start) {
        Matcher matcher = TEXT.matcher(start);
        return matcher.matches() || matcher.hitEnd();
    }

    int execute() {
        String whole = text;
        text = "";
        for (int i = 0; i < whole.length(); i++) {
            if (!canContinue(whole.substring(0, i + 1))) {
                return -1000 - i;
            }
        }
        if (!TEXT.matcher(whole).matches()) {
            return -1000 - whole.length();
        }
        State next = now.copy();
        String[] commands = whole.split(";");
        for (int i = 0; i < commands.length; i++) {
            Matcher m = COMMAND.matcher(commands[i]);
            m.matches();
            int first = Integer.parseInt(m.group(2));
            int code = one(next, m.group(1), first, m.group(3) == null ? 0 : Integer.parseInt(m.group(3)));
            if (code < 0) {
                refused = new int[] {code, i};
                return REFUSED;
            }
        }
        take(next);
        return commands.length;
    }

    static int one(State s, String letter, int first, int second) {
        switch (letter) {
            case "x": return cut(s, first, second);
            case "i": return insert(s, first, second);
            case "d": return remove(s, first);
            case "s": return divide(s, first, second);
            case "m": return has(s, first) ? moveClip(s, first, s.clips.get(first).track, second) : NONE;
            default: return chapter(s, first, second);
        }
    }

    int refused(int what) {
        return what < 0 || what > 1 ? BAD : refused == null ? NOTHING : refused[what];
    }

    int write() {
        List<String> commands = new ArrayList<>();
        now.chapters.forEach((frame, title) -> commands.add("c" + frame + "=" + title));
        written = String.join(";", commands);
        return written.length();
    }

    int written(int index) {
        return index < 0 || index >= written.length() ? NONE : written.charAt(index);
    }

    int begin() {
        if (groupStart != null) {
            return REFUSED;
        }
        groupStart = now;
        groupChanges = 0;
        return past.size();
    }

    int end() {
        if (groupStart == null) {
            return REFUSED;
        }
        if (groupChanges > 0) {
            push(groupStart);
        }
        groupStart = null;
        return groupChanges;
    }

    int undo() {
        if (groupStart != null) {
            return REFUSED;
        }
        if (past.isEmpty()) {
            return NOTHING;
        }
        future.add(now);
        now = past.remove(past.size() - 1);
        return past.size();
    }

    int redo() {
        if (groupStart != null) {
            return REFUSED;
        }
        if (future.isEmpty()) {
            return NOTHING;
        }
        past.add(now);
        now = future.remove(future.size() - 1);
        return future.size();
    }

    int save() {
        saved = now;
        return now.clips.size();
    }

    int restore() {
        if (groupStart != null) {
            return REFUSED;
        }
        if (saved == null) {
            return NOTHING;
        }
        now = saved;
        past.clear();
        future.clear();
        return now.clips.size();
    }

    int count(int what) {
        int[] counts = {now.sources.size(), now.clips.size(), now.chapters.size(), now.events().size(),
            past.size(), future.size(), groupStart != null ? 1 : 0, text.length()};
        return what < 0 || what > 12 ? BAD : what > 7 ? now.settings[what - 8] : counts[what];
    }
}
