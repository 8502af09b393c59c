import java.util.List;

/** The calls by name, on the editor and on the slow one. */
final class Calls {
    private static final List<String> CHANGES = List.of("addSource", "set", "setTrack", "addClip", "setClip", "moveClip",
        "copyClip", "trim", "divide", "remove", "cut", "tighten", "insert", "chapter", "dropChapter", "normalize", "execute");

    private Calls() {
    }

    static boolean isChange(String method) {
        return CHANGES.contains(method);
    }

    static int onFast(PodcastEditor x, String method, int[] a) {
        switch (method) {
            case "addSource": return x.addSource(a[0], a[1], a[2], a[3]);
            case "set": return x.set(a[0], a[1]);
            case "setTrack": return x.setTrack(a[0], a[1], a[2]);
            case "addClip": return x.addClip(a[0], a[1], a[2], a[3], a[4]);
            case "setClip": return x.setClip(a[0], a[1], a[2]);
            case "moveClip": return x.moveClip(a[0], a[1], a[2]);
            case "trim": return x.trim(a[0], a[1], a[2]);
            case "divide": return x.divide(a[0], a[1]);
            case "remove": return x.remove(a[0]);
            case "copyClip": return x.copyClip(a[0], a[1], a[2]);
            case "cut": return x.cut(a[0], a[1]);
            case "insert": return x.insert(a[0], a[1]);
            case "chapter": return x.chapter(a[0], a[1]);
            case "dropChapter": return x.dropChapter(a[0]);
            case "tighten": return x.tighten(a[0], a[1]);
            case "normalize": return x.normalize(a[0]);
            case "append": return x.append(a[0]);
            case "execute": return x.execute();
            case "refused": return x.refused(a[0]);
            case "begin": return x.begin();
            case "end": return x.end();
            case "undo": return x.undo();
            case "redo": return x.redo();
            case "save": return x.save();
            case "restore": return x.restore();
            case "write": return x.write();
            case "written": return x.written(a[0]);
            case "source": return x.source(a[0], a[1]);
            case "sourceValue": return x.sourceValue(a[0], a[1]);
            case "track": return x.track(a[0], a[1]);
            case "clip": return x.clip(a[0], a[1]);
            case "room": return x.room(a[0], a[1], a[2]);
            case "clipAt": return x.clipAt(a[0], a[1]);
            case "explain": return x.explain(a[0], a[1]);
            case "ofChapter": return x.ofChapter(a[0], a[1]);
            case "chapterAt": return x.chapterAt(a[0]);
            case "value": return x.value(a[0], a[1], a[2]);
            case "mix": return x.mix(a[0]);
            case "peak": return x.peak(a[0]);
            case "level": return x.level(a[0]);
            case "loudness": return x.loudness(a[0]);
            case "masterFor": return x.masterFor(a[0]);
            case "covered": return x.covered(a[0]);
            case "loudnessAgain": return x.loudnessAgain();
            case "silence": return x.silence(a[0], a[1], a[2], a[3]);
            case "ifCut": return x.ifCut(a[0], a[1], a[2]);
            case "event": return x.event(a[0], a[1]);
            case "count": return x.count(a[0]);
            default: throw new IllegalArgumentException(method);
        }
    }

    static int onSlow(SlowEditor x, String method, int[] a) {
        switch (method) {
            case "addSource": return x.addSource(a[0], a[1], a[2], a[3]);
            case "set": return x.set(a[0], a[1]);
            case "setTrack": return x.setTrack(a[0], a[1], a[2]);
            case "addClip": return x.change(s -> SlowEditor.addClip(s, a[0], a[1], a[2], a[3], a[4]));
            case "setClip": return x.change(s -> SlowEditor.setClip(s, a[0], a[1], a[2]));
            case "moveClip": return x.change(s -> SlowEditor.moveClip(s, a[0], a[1], a[2]));
            case "trim": return x.change(s -> SlowEditor.trim(s, a[0], a[1], a[2]));
            case "divide": return x.change(s -> SlowEditor.divide(s, a[0], a[1]));
            case "remove": return x.change(s -> SlowEditor.remove(s, a[0]));
            case "copyClip": return x.change(s -> SlowEditor.copyClip(s, a[0], a[1], a[2]));
            case "cut": return x.change(s -> SlowEditor.cut(s, a[0], a[1]));
            case "insert": return x.change(s -> SlowEditor.insert(s, a[0], a[1]));
            case "chapter": return x.change(s -> SlowEditor.chapter(s, a[0], a[1]));
            case "dropChapter": return x.change(s -> SlowEditor.dropChapter(s, a[0]));
            case "tighten": return x.change(s -> SlowEditor.tighten(s, a[0], a[1]));
            case "normalize": return x.change(s -> SlowEditor.normalize(s, a[0]));
            case "append": return x.append(a[0]);
            case "execute": return x.execute();
            case "refused": return x.refused(a[0]);
            case "begin": return x.begin();
            case "end": return x.end();
            case "undo": return x.undo();
            case "redo": return x.redo();
            case "save": return x.save();
            case "restore": return x.restore();
            case "write": return x.write();
            case "written": return x.written(a[0]);
            case "source": return x.source(a[0], a[1]);
            case "sourceValue": return x.sourceValue(a[0], a[1]);
            case "track": return x.track(a[0], a[1]);
            case "clip": return x.clip(a[0], a[1]);
            case "room": return x.room(a[0], a[1], a[2]);
            case "clipAt": return x.clipAt(a[0], a[1]);
            case "explain": return x.explain(a[0], a[1]);
            case "ofChapter": return x.ofChapter(a[0], a[1]);
            case "chapterAt": return x.chapterAt(a[0]);
            case "value": return x.value(a[0], a[1], a[2]);
            case "mix": return x.mix(a[0]);
            case "peak": return x.peak(a[0]);
            case "level": return x.level(a[0]);
            case "loudness": return x.loudness(a[0]);
            case "masterFor": return SlowEditor.masterFor(x.now, a[0]);
            case "covered": return x.covered(a[0]);
            case "loudnessAgain": return x.loudness(4);
            case "silence": return x.silence(a[0], a[1], a[2], a[3]);
            case "ifCut": return x.ifCut(a[0], a[1], a[2]);
            case "event": return x.event(a[0], a[1]);
            case "count": return x.count(a[0]);
            default: throw new IllegalArgumentException(method);
        }
    }
}
