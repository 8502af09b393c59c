/** The edges of the promises 37 to 49: events, texts, groups, undo and the snapshot. */
public final class StepPromisesTest extends Edges {
    public static void main(String[] args) {
        event();
        append();
        execute();
        refused();
        write();
        written();
        begin();
        end();
        undo();
        redo();
        save();
        restore();
        count();
        finish();
    }

    private static void event() {
        part("Promise 37, event");
        test("the frame, the kind and the track, or the title of a chapter", () -> {
            PodcastEditor x = tone(1);
            x.addClip(3, 590, 0, 0, 10);
            x.chapter(595, 99);
            int[][] events = {{590, 2, 3}, {595, 1, 99}, {600, 0, 3}};
            for (int i = 0; i < 9; i++) {
                due(events[i / 3][i % 3], x.event(i / 3, i % 3));
            }
        });
        test("NONE if there is no such event", () -> {
            refuses(Edges::busy, NONE, x -> x.event(-1, 0), x -> x.event(11, 0), x -> x.event(MIN, 0), x -> x.event(MAX, 2));
            due(600, busy().event(10, 0));
            due(0, busy().event(0, 0));
            refuses(Edges::empty, NONE, x -> x.event(0, 0), x -> x.event(0, 2));
        });
        test("BAD if there is no such what", () -> refuses(Edges::busy, BAD, x -> x.event(0, -1), x -> x.event(10, 3), x -> x.event(0, MIN),
            x -> x.event(0, MAX)));
        test("NONE comes before BAD", () -> refuses(Edges::busy, NONE, x -> x.event(-1, -1), x -> x.event(11, 3)));
    }

    private static void append() {
        part("Promise 38, append");
        test("it returns the length of the text, from 1 to 60", () -> {
            PodcastEditor x = empty();
            for (int i = 1; i <= 60; i++) {
                due(i, x.append(32 + i));
            }
        });
        test("the code is from 32 to 126", () -> {
            due(1, empty().append(32));
            due(1, empty().append(126));
            refuses(Edges::busy, BAD, x -> x.append(31), x -> x.append(127), x -> x.append(0), x -> x.append(-1), x -> x.append(MIN),
                x -> x.append(MAX), x -> x.append(128 + 'c'), x -> x.append(65536 + 'c'));
        });
        test("FULL if the text has 60 characters", () -> refuses(() -> fullText(), FULL, x -> x.append('1'), x -> x.append(32)));
        test("BAD comes before FULL", () -> refuses(() -> fullText(), BAD, x -> x.append(31), x -> x.append(127)));
        test("behind execute there is room for 60 again", () -> {
            PodcastEditor x = fullText();
            x.execute();
            for (int i = 1; i <= 60; i++) {
                due(i, x.append('c'));
            }
            due(FULL, x.append('c'));
        });
        test("it is no change, and can be done while a group is open", () -> {
            PodcastEditor x = open();
            due(8, x.append('1'));
            due(1, x.end());
        });
    }

    /** A text of 60 characters, which ends too early. */
    private static PodcastEditor fullText() {
        PodcastEditor x = idle();
        type(x, "c1=1;c2=2;c3=3;c4=4;c5=5;c6=6;c7=7;c8=8;c9=9;x10-12;i20+006;");
        return x;
    }

    private static void execute() {
        part("Promise 39, execute");
        test("it returns the number of commands: 1 and 20", () -> {
            due(1, run(one(), "d0"));
            due(20, run(crowd(20), "d0;d0;d0;d0;d0;d0;d0;d0;d0;d0;d0;d0;d0;d0;d0;d0;d0;d0;d0;d0"));
        });
        test("-1000 minus the fault position if the text is wrong: from -1000 to -1060", () -> {
            due(-1000, empty().execute());
            due(-1000, run(empty(), "?"));
            due(-1001, run(empty(), "c"));
            due(-1060, run(crowd(24), "d0;d0;d0;d0;d0;d0;d0;d0;d0;d0;d0;d0;d0;d0;d0;d0;d0;d0;d0;d0;"));
        });
        test("all commands are carried out or none: the last of 20 is refused", () -> {
            PodcastEditor x = crowd(19);
            due(REFUSED, run(x, "d0;d0;d0;d0;d0;d0;d0;d0;d0;d0;d0;d0;d0;d0;d0;d0;d0;d0;d0;d0"));
            due(19, x.count(1));
            due(NONE, x.refused(0));
            due(19, x.refused(1));
            due(10, x.count(4));
        });
        test("the first command is refused, and the others are not done", () -> {
            PodcastEditor x = one();
            due(REFUSED, run(x, "d1;c1=1;d0"));
            due(0, x.refused(1));
            due(0, x.count(2));
            due(1, x.count(1));
        });
        test("they are one change", () -> {
            PodcastEditor x = one();
            due(3, run(x, "c1=1;c2=2;d0"));
            due(6, x.count(4));
            due(5, x.undo());
            due(1, x.count(1));
            due(0, x.count(2));
        });
        test("they are one change of a group", () -> {
            PodcastEditor x = one();
            x.begin();
            run(x, "c1=1;c2=2;d0");
            due(1, x.end());
        });
        test("the text is empty then, and can be typed anew", () -> {
            PodcastEditor x = one();
            run(x, "c1=1");
            due(0, x.count(7));
            due(-1000, x.execute());
            due(1, x.append('d'));
            due(2, x.append('0'));
            due(1, x.execute());
        });
        test("it is typed by its characters: a text is not the one before", () -> {
            PodcastEditor x = one();
            run(x, "c100=10;c200=20");
            due(-1003, run(x, "c1="));
            due(1, run(x, "c3=3"));
            dueChapters(x, 3, 3, 100, 10, 200, 20);
        });
        test("it can be done while a group is open", () -> {
            PodcastEditor x = open();
            due(2, x.execute());
            due(3, x.count(1));
            due(2, x.end());
        });
    }

    private static void refused() {
        part("Promise 40, refused");
        test("NOTHING if nothing was refused, also behind a text that is wrong or went well", () -> {
            PodcastEditor x = one();
            due(NOTHING, x.refused(0));
            due(NOTHING, x.refused(1));
            run(x, "d");
            due(NOTHING, x.refused(0));
            run(x, "d0");
            due(NOTHING, x.refused(1));
        });
        test("the error code and the number of the command, from 0", () -> {
            PodcastEditor x = one();
            run(x, "d1");
            due(NONE, x.refused(0));
            due(0, x.refused(1));
            run(x, "c1=1;s0@10");
            due(BAD, x.refused(0));
            due(1, x.refused(1));
        });
        test("what was refused last counts", () -> {
            PodcastEditor x = idle();
            due(OVERLAP, x.refused(0));
            due(1, x.refused(1));
            run(x, "d9");
            due(NONE, x.refused(0));
            due(0, x.refused(1));
        });
        test("it stays when a later text goes well or is wrong", () -> {
            PodcastEditor x = idle();
            run(x, "c1=1");
            due(OVERLAP, x.refused(0));
            run(x, "c1=");
            due(OVERLAP, x.refused(0));
            due(1, x.refused(1));
        });
        test("what another call answers is not refused", () -> {
            PodcastEditor x = one();
            x.remove(5);
            x.cut(5, 5);
            due(NOTHING, x.refused(0));
        });
        test("BAD if there is no such what, also if nothing was refused", () -> {
            refuses(Edges::busy, BAD, x -> x.refused(-1), x -> x.refused(2), x -> x.refused(MIN), x -> x.refused(MAX));
            refuses(Edges::empty, BAD, x -> x.refused(-1), x -> x.refused(2));
        });
    }

    private static void dueWritten(PodcastEditor x, String text) {
        due(text.length(), x.write());
        for (int i = 0; i < text.length(); i++) {
            due(text.charAt(i), x.written(i));
        }
        due(NONE, x.written(text.length()));
    }

    private static void write() {
        part("Promise 41, write");
        test("the written text is empty at first", () -> due(NONE, empty().written(0)));
        test("without chapters it is empty, and empties what was written before", () -> {
            dueWritten(empty(), "");
            PodcastEditor x = Edges.chapters(1);
            x.write();
            x.dropChapter(0);
            due('c', x.written(0));
            dueWritten(x, "");
            due(NONE, x.written(0));
        });
        test("one chapter is one command without ;", () -> dueWritten(Edges.chapters(1), "c10=1"));
        test("the chapters are in their order, with ; between them and none behind the last one", () ->
            dueWritten(Edges.chapters(3), "c10=1;c20=2;c30=3"));
        test("numbers have no zeros at the front, but those inside and at the end, and 0 is one digit", () -> {
            PodcastEditor x = empty();
            x.chapter(0, 0);
            x.chapter(9, 9);
            x.chapter(10, 10);
            x.chapter(99, 99);
            x.chapter(100, 90);
            x.chapter(101, 11);
            x.chapter(110, 20);
            x.chapter(599, 5);
            dueWritten(x, "c0=0;c9=9;c10=10;c99=99;c100=90;c101=11;c110=20;c599=5");
        });
        test("the longest text: 12 chapters of 7 characters each", () -> {
            PodcastEditor x = empty();
            StringBuilder text = new StringBuilder();
            for (int i = 0; i < 12; i++) {
                x.chapter(588 + i, 88 + i);
                text.append(i == 0 ? "" : ";").append("c").append(588 + i).append("=").append(88 + i);
            }
            dueWritten(x, text.toString());
            due(95, x.write());
            due(NONE, x.written(95));
        });
        test("it is for execute: what is written makes the same chapters", () -> {
            PodcastEditor x = Edges.chapters(5);
            PodcastEditor y = tone(100);
            for (int i = 0; i < x.write(); i++) {
                y.append(x.written(i));
            }
            due(5, y.execute());
            dueChapters(y, 10, 1, 20, 2, 30, 3, 40, 4, 50, 5);
        });
        test("it is no change, and can be done while a group is open", () -> {
            PodcastEditor x = open();
            due(17, x.write());
            due(1, x.end());
            due(10, x.count(4));
        });
    }

    private static void written() {
        part("Promise 42, written");
        test("the first and the last character", () -> {
            PodcastEditor x = Edges.chapters(1);
            due(5, x.write());
            due('c', x.written(0));
            due('1', x.written(4));
        });
        test("NONE if there is no such index", () -> {
            refuses(Edges::busy, NONE, x -> x.written(-1), x -> x.written(17), x -> x.written(MIN), x -> x.written(MAX));
            due('3', busy().written(16));
            refuses(Edges::empty, NONE, x -> x.written(0), x -> x.written(-1));
        });
        test("a shorter text ends earlier", () -> {
            PodcastEditor x = Edges.chapters(2);
            due(11, x.write());
            x.dropChapter(1);
            due('2', x.written(10));
            due(5, x.write());
            due(NONE, x.written(5));
            due(NONE, x.written(10));
        });
    }

    private static void begin() {
        part("Promise 43, begin");
        test("it returns the steps that can be undone: 0, 1 and 10 at most", () -> {
            due(0, empty().begin());
            due(1, tone(1).begin());
            due(10, crowd(9).begin());
            due(10, crowd(24).begin());
        });
        test("it does not count those that were undone", () -> {
            due(9, idle().begin());
            PodcastEditor x = tone(1);
            x.undo();
            due(0, x.begin());
        });
        test("REFUSED if one is open, empty or not", () -> {
            refuses(Edges::open, REFUSED, x -> x.begin());
            PodcastEditor x = empty();
            x.begin();
            due(REFUSED, x.begin());
            due(0, x.end());
        });
        test("a group can be opened again when it was closed", () -> {
            PodcastEditor x = open();
            x.end();
            due(10, x.begin());
            due(0, x.end());
        });
        test("it is no change: what was undone can be redone behind it", () -> {
            PodcastEditor x = idle();
            x.begin();
            due(1, x.count(5));
            x.end();
            due(0, x.redo());
        });
    }

    private static void end() {
        part("Promise 44, end");
        test("it returns the number of its changes: 0, 1, and more than 10", () -> {
            PodcastEditor x = empty();
            x.begin();
            due(0, x.end());
            x.begin();
            x.set(0, 5);
            due(1, x.end());
            x.begin();
            for (int i = 0; i < 100; i++) {
                x.set(0, i);
            }
            due(100, x.end());
            due(2, x.count(4));
        });
        test("calls that return an error code are no changes", () -> {
            PodcastEditor x = empty();
            x.begin();
            x.set(0, 401);
            x.addSource(4, 1, 0, 0);
            x.remove(0);
            x.cut(5, 5);
            x.normalize(0);
            x.execute();
            due(0, x.end());
            due(0, x.count(4));
        });
        test("changes by which nothing changes count", () -> {
            PodcastEditor x = empty();
            x.begin();
            x.set(0, 100);
            x.setTrack(0, 3, -1);
            x.cut(0, 1);
            x.insert(0, 1);
            due(4, x.end());
            due(1, x.count(4));
        });
        test("changes before the group do not count, and those of the group before neither", () -> {
            PodcastEditor x = open();
            due(1, x.end());
            x.begin();
            x.set(0, 7);
            x.set(0, 8);
            due(2, x.end());
        });
        test("REFUSED if none is open", () -> {
            refuses(Edges::busy, REFUSED, x -> x.end());
            PodcastEditor x = open();
            x.end();
            due(REFUSED, x.end());
        });
    }

    private static void undo() {
        part("Promise 45, undo");
        test("it returns the steps that can still be undone: 9 after the first of 10, 0 after the last", () -> {
            PodcastEditor x = crowd(24);
            for (int i = 9; i >= 0; i--) {
                due(i, x.undo());
                due(14 + i, x.count(1));
            }
            due(NOTHING, x.undo());
            due(14, x.count(1));
        });
        test("NOTHING if there is none: at first, behind the last one, and behind restore", () -> {
            refuses(Edges::empty, NOTHING, x -> x.undo());
            PodcastEditor x = tone(1);
            due(0, x.undo());
            due(NOTHING, x.undo());
            refuses(() -> {
                PodcastEditor y = busy();
                y.restore();
                return y;
            }, NOTHING, y -> y.undo());
        });
        test("REFUSED comes before NOTHING", () -> {
            PodcastEditor x = empty();
            x.begin();
            due(REFUSED, x.undo());
        });
        test("REFUSED if a group is open, and its changes stay", () -> {
            refuses(Edges::open, REFUSED, x -> x.undo());
            PodcastEditor x = open();
            x.undo();
            due(30, x.count(11));
        });
        test("a group is undone as one step", () -> {
            PodcastEditor x = tone(1);
            x.begin();
            x.addClip(0, 0, 0, 0, 10);
            x.chapter(5, 5);
            x.end();
            due(1, x.undo());
            due(0, x.count(1) + x.count(2));
            due(1, x.count(0));
        });
        test("it does not touch the snapshot", () -> {
            PodcastEditor x = tone(1);
            x.save();
            x.undo();
            due(0, x.restore());
            due(1, x.count(0));
        });
    }

    private static void redo() {
        part("Promise 46, redo");
        test("it returns the steps that can still be redone: 9 after the first of 10, 0 after the last", () -> {
            PodcastEditor x = crowd(24);
            for (int i = 0; i < 10; i++) {
                x.undo();
            }
            for (int i = 9; i >= 0; i--) {
                due(i, x.redo());
                due(24 - i, x.count(1));
            }
            due(NOTHING, x.redo());
        });
        test("it redoes the step that was undone last", () -> {
            PodcastEditor x = empty();
            x.set(0, 1);
            x.set(1, 20);
            x.undo();
            x.undo();
            due(1, x.redo());
            due(1, x.count(8));
            due(10, x.count(9));
        });
        test("NOTHING if there is none: at first, behind a change, and behind restore", () -> {
            refuses(Edges::empty, NOTHING, x -> x.redo());
            refuses(() -> {
                PodcastEditor y = busy();
                y.set(0, 5);
                return y;
            }, NOTHING, y -> y.redo());
            refuses(() -> {
                PodcastEditor y = busy();
                y.restore();
                return y;
            }, NOTHING, y -> y.redo());
        });
        test("REFUSED comes before NOTHING", () -> {
            PodcastEditor x = empty();
            x.begin();
            due(REFUSED, x.redo());
        });
        test("REFUSED if a group is open, also an empty one", () -> {
            refuses(Edges::open, REFUSED, x -> x.redo());
            PodcastEditor x = idle();
            x.begin();
            due(REFUSED, x.redo());
            due(1, x.count(5));
        });
        test("a group is redone as one step", () -> {
            PodcastEditor x = tone(1);
            x.begin();
            x.addClip(0, 0, 0, 0, 10);
            x.chapter(5, 5);
            x.end();
            x.undo();
            due(0, x.redo());
            due(2, x.count(1) + x.count(2));
        });
        test("undo and redo, in turn, at the limit of 10 steps", () -> {
            PodcastEditor x = empty();
            for (int i = 1; i <= 30; i++) {
                x.set(0, i);
                due(Math.min(i, 10) - 1, x.undo());
                due(0, x.redo());
                due(i, x.count(8));
            }
        });
    }

    private static void save() {
        part("Promise 47, save");
        test("it returns the number of clips: 0 and 24", () -> {
            due(0, empty().save());
            due(24, crowd(24).save());
        });
        test("it takes the place of an earlier one", () -> {
            PodcastEditor x = crowd(3);
            x.save();
            x.remove(0);
            due(2, x.save());
            x.remove(0);
            due(2, x.restore());
            due(3, x.clip(0, 1));
        });
        test("it is no change: steps stay on both sides", () -> {
            PodcastEditor x = idle();
            x.save();
            due(9, x.count(4));
            due(1, x.count(5));
        });
        test("it can be done while a group is open, and saves its changes so far", () -> {
            PodcastEditor x = open();
            due(4, x.save());
            x.set(3, 40);
            due(2, x.end());
            x.restore();
            due(30, x.count(11));
        });
    }

    private static void restore() {
        part("Promise 48, restore");
        test("it returns the number of clips: 0 and 24", () -> {
            PodcastEditor x = crowd(24);
            x.save();
            x.cut(0, 600);
            due(24, x.restore());
            PodcastEditor y = tone(1);
            y.save();
            y.addClip(0, 0, 0, 0, 1);
            due(0, y.restore());
        });
        test("the snapshot stays", () -> {
            PodcastEditor x = crowd(3);
            x.save();
            for (int i = 0; i < 3; i++) {
                x.remove(0);
                x.setTrack(0, 0, 5);
                due(3, x.restore());
                due(100, x.track(0, 0));
            }
        });
        test("nothing can be undone or redone then", () -> {
            PodcastEditor x = idle();
            due(4, x.restore());
            due(0, x.count(4));
            due(0, x.count(5));
            due(NOTHING, x.undo());
            due(NOTHING, x.redo());
        });
        test("the first step behind it can be undone, back to the snapshot", () -> {
            PodcastEditor x = idle();
            x.restore();
            x.set(0, 5);
            due(0, x.undo());
            due(100, x.count(8));
            due(NOTHING, x.undo());
        });
        test("10 steps behind it can be undone", () -> {
            PodcastEditor x = idle();
            x.restore();
            for (int i = 1; i <= 11; i++) {
                x.set(0, i);
            }
            for (int i = 9; i >= 0; i--) {
                due(i, x.undo());
            }
            due(1, x.count(8));
        });
        test("REFUSED if a group is open", () -> {
            refuses(Edges::open, REFUSED, x -> x.restore());
        });
        test("NOTHING if there is no snapshot", () -> refuses(() -> {
            PodcastEditor x = one();
            x.undo();
            return x;
        }, NOTHING, x -> x.restore()));
        test("REFUSED comes before NOTHING", () -> refuses(() -> {
            PodcastEditor x = one();
            x.begin();
            return x;
        }, REFUSED, x -> x.restore()));
        test("it is no change, and no step", () -> {
            PodcastEditor x = tone(1);
            x.save();
            x.restore();
            due(0, x.count(4));
        });
        test("a snapshot of a new object restores it", () -> {
            PodcastEditor x = empty();
            due(0, x.save());
            x.addSource(0, 1, 1, 0);
            x.addClip(0, 0, 0, 0, 1);
            x.chapter(1, 1);
            x.set(4, 2);
            x.setTrack(0, 3, 1);
            due(0, x.restore());
            due(picture(empty()).equals(picture(x)) ? 1 : 0, 1);
        });
    }

    private static void count() {
        part("Promise 49, count");
        test("each of them on an editor that holds some of all there is", () -> {
            int[] counts = {3, 4, 3, 11, 9, 1, 0, 7, 90, 20, 10, 25, 0};
            for (int what = 0; what < 13; what++) {
                due(counts[what], busy().count(what));
            }
        });
        test("the sources: 0 to 6", () -> {
            due(0, empty().count(0));
            PodcastEditor x = empty();
            for (int i = 1; i <= 6; i++) {
                x.addSource(0, 1, 1, 0);
                due(i, x.count(0));
            }
        });
        test("the clips: 0 to 24", () -> {
            due(0, empty().count(1));
            due(24, crowd(24).count(1));
        });
        test("the chapters: 0 to 12", () -> {
            due(0, empty().count(2));
            due(12, Edges.chapters(12).count(2));
        });
        test("the events: two for each clip, one for each chapter", () -> {
            due(0, empty().count(3));
            due(2, one().count(3));
            due(12, Edges.chapters(12).count(3));
            due(48, crowd(24).count(3));
        });
        test("the steps that can be undone: 0 to 10", () -> {
            due(0, empty().count(4));
            due(9, crowd(8).count(4));
            due(10, crowd(9).count(4));
            due(10, crowd(10).count(4));
        });
        test("those that can be redone: 0 to 10", () -> {
            PodcastEditor x = crowd(24);
            due(0, x.count(5));
            for (int i = 1; i <= 10; i++) {
                x.undo();
                due(i, x.count(5));
            }
            x.undo();
            due(10, x.count(5));
        });
        test("1 if a group is open, otherwise 0", () -> {
            PodcastEditor x = empty();
            due(0, x.count(6));
            x.begin();
            due(1, x.count(6));
            x.set(0, 5);
            due(1, x.count(6));
            x.end();
            due(0, x.count(6));
        });
        test("the steps that can be undone do not count the group that is open", () -> {
            PodcastEditor x = tone(1);
            x.begin();
            x.set(0, 5);
            due(1, x.count(4));
            x.end();
            due(2, x.count(4));
        });
        test("the characters of the text: 0 to 60", () -> {
            due(0, empty().count(7));
            due(60, fullText().count(7));
        });
        test("the settings, as for set", () -> {
            for (int i = 0; i < 5; i++) {
                PodcastEditor x = empty();
                x.set(i, i == 4 ? 2 : 4 + i);
                due(i == 4 ? 2 : 4 + i, x.count(8 + i));
            }
        });
        test("BAD if there is no such what", () -> refuses(Edges::busy, BAD, x -> x.count(-1), x -> x.count(13), x -> x.count(MIN),
            x -> x.count(MAX)));
    }
}
