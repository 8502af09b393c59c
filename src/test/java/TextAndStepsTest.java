import java.util.List;

/** The edges that 'Description' names in Text, Steps, In doubt and Errors, and the constants. */
public final class TextAndStepsTest extends Edges {
    public static void main(String[] args) {
        commands();
        numbers();
        faults();
        refusals();
        changes();
        steps();
        groups();
        inDoubt();
        errors();
        constants();
        finish();
    }

    private static void commands() {
        part("Text");
        test("x cuts, from the first number to the second one", () ->
            same(Edges::one, x -> run(x, "x103-105"), x -> x.cut(103, 105)));
        test("i inserts at the first number, and the second one is how many", () ->
            same(Edges::one, x -> run(x, "i103+105"), x -> x.insert(103, 105)));
        test("d removes a clip", () -> same(Edges::one, x -> run(x, "d0"), x -> x.remove(0)));
        test("s divides the clip of the first number at its frame", () ->
            same(() -> crowd(9), x -> run(x, "s4@1"), x -> x.divide(4, 1)));
        test("m moves the clip of the first number on its track to a start", () -> {
            same(Edges::one, x -> run(x, "m0@590"), x -> x.moveClip(0, 1, 590));
            same(() -> crowd(9), x -> run(x, "m4@77"), x -> x.moveClip(4, 0, 77));
        });
        test("c sets a chapter at the first number with the title of the second one", () ->
            same(Edges::one, x -> run(x, "c99=98"), x -> x.chapter(99, 98)));
        test("a text is one command at least, and there are many with ; between them", () -> {
            due(1, run(one(), "c1=1"));
            due(2, run(one(), "c1=1;c2=2"));
            PodcastEditor x = one();
            due(12, run(x, "c1=1;c2=1;c3=1;c4=1;c5=1;c6=1;c7=1;c8=1;c9=1;c0=1;c1=2;c2=2"));
            due(10, x.count(2));
        });
        test("20 commands, which are 59 characters", () -> {
            PodcastEditor x = crowd(22);
            due(59, type(x, "d0;d0;d0;d0;d0;d0;d0;d0;d0;d0;d0;d0;d0;d0;d0;d0;d0;d0;d0;d0"));
            due(20, x.execute());
            due(2, x.count(1));
            due(60, x.clip(0, 1));
        });
        test("one command of 60 characters is none, six of 8 characters and one of 6 are a text", () -> {
            PodcastEditor x = tone(1);
            due(60, type(x, "c001=01;c002=02;c003=03;c004=04;c005=05;c006=06;c007=7;i9+01"));
            due(8, x.execute());
            due(7, x.count(2));
        });
    }

    private static void numbers() {
        part("Text");
        test("a number has one digit at least", () -> {
            due(1, run(one(), "d0"));
            due(-1001, run(one(), "d"));
            due(-1001, run(one(), "c=5"));
            due(-1003, run(one(), "c5="));
        });
        test("a number has three digits at most", () -> {
            due(1, run(one(), "c123=1"));
            due(-1004, run(one(), "c1234=1"));
            due(1, run(one(), "c1=099"));
            due(-1006, run(one(), "c1=0990"));
        });
        test("zeros at the front are allowed, and count as digits", () -> {
            PodcastEditor x = one();
            due(3, run(x, "c007=01;c08=001;c000=000"));
            dueChapters(x, 0, 0, 7, 1, 8, 1);
            due(-1004, run(x, "c0007=1"));
            due(-1004, run(x, "d0000"));
        });
        test("the greatest number is 999", () -> {
            PodcastEditor x = one();
            due(REFUSED, run(x, "d999"));
            due(NONE, x.refused(0));
            due(REFUSED, run(x, "x999-999"));
            due(BAD, x.refused(0));
            due(REFUSED, run(x, "i599+999"));
            due(BAD, x.refused(0));
            due(1, run(x, "i599+600"));
        });
        test("numbers are decimal, with zeros at the front too", () -> {
            PodcastEditor x = one();
            run(x, "c010=010;c598=89");
            dueChapters(x, 10, 10, 598, 89);
        });
    }

    private static void dueFault(int position, String text) {
        refuses(Edges::idle, -1000 - position, x -> run(x, text));
    }

    private static void faults() {
        part("Text");
        test("an empty text ends too early, at 0", () -> dueFault(0, ""));
        String[] whole = {"x12-345", "i12+345", "d12", "s12@345", "m12@345", "c12=345"};
        for (String command : whole) {
            test("each start of " + command + " that is no command ends too early, at its length", () -> {
                for (int length = 0; length < command.length(); length++) {
                    if (!command.substring(0, length).matches("d[0-9]+|.*[-+@=][0-9]+")) {
                        dueFault(length, command.substring(0, length));
                    }
                }
            });
            test("each start of " + command + " with a sign that can't stand there is wrong at that sign", () -> {
                for (int length = 0; length < command.length(); length++) {
                    dueFault(length, command.substring(0, length) + "#");
                    dueFault(length, command.substring(0, length) + " " + command.substring(length));
                    dueFault(length, command.substring(0, length) + "~;d1");
                }
            });
            test(command + " goes on with ; and nothing else", () -> {
                for (char sign = 32; sign < 127; sign++) {
                    boolean digit = sign >= '0' && sign <= '9';
                    boolean second = command.equals("d12");
                    if (sign == ';') {
                        dueFault(command.length() + 1, command + sign);
                    } else if (!digit || !second) {
                        dueFault(command.length(), command + sign + "1");
                    }
                }
            });
            test("between the numbers of " + command + " stands its own sign and no other", () -> {
                char own = command.length() > 3 ? command.charAt(3) : 0;
                for (char sign : ";-+@=.,:x".toCharArray()) {
                    if (sign == ';' && own != 0) {
                        dueFault(3, command.substring(0, 3) + sign + "345");
                    } else if (sign == ';') {
                        dueFault(4, command.substring(0, 3) + sign + "345");
                    } else if (sign != own) {
                        dueFault(3, command.substring(0, 3) + sign + "345");
                    }
                }
            });
        }
        test("the first character is one of x, i, d, s, m and c, and not a capital", () -> {
            for (char sign = 32; sign < 127; sign++) {
                dueFault("xidsmc".indexOf(sign) >= 0 ? 1 : 0, "" + sign);
                dueFault("xidsmc".indexOf(sign) >= 0 ? 6 : 5, "c1=1;" + sign);
            }
        });
        test("a digit is from 0 to 9: not the sign before 0, and not the one behind 9", () -> {
            dueFault(1, "d/");
            dueFault(1, "d:");
            dueFault(3, "c1=/");
            dueFault(3, "c1=:");
        });
        test("; alone, ; at the front and two of them are wrong where the command is missing", () -> {
            dueFault(0, ";");
            dueFault(0, ";d0");
            dueFault(3, "d0;;d0");
            dueFault(2, "d0 ;d0");
            dueFault(3, "d0; d0");
        });
        test("a text that ends behind ; ends too early, at its length", () -> {
            dueFault(3, "d0;");
            dueFault(8, "c1=1;d0;");
        });
        test("a fault in a later command counts from the front of the text", () -> {
            dueFault(7, "c1=1;x2+3");
            dueFault(10, "c1=1;x2-3;y");
        });
        test("with 60 characters the fault can be at 60, and at 59", () -> {
            String most = "d0;d0;d0;d0;d0;d0;d0;d0;d0;d0;d0;d0;d0;d0;d0;d0;d0;d0;d0;d0";
            dueFault(60, most + ";");
            dueFault(59, most + "-");
            refuses(Edges::idle, REFUSED, x -> executeAgain(x, most + "0"));
        });
        test("a wrong text leaves nothing for the next one, whatever it was", () -> {
            String[] wrong = {"c1=", "c", "d0;c1=", "c1=1;c2=;d0", "x1-2;i3", ";", "d0;"};
            for (String text : wrong) {
                PodcastEditor x = crowd(3);
                run(x, text);
                due(1, run(x, "d0"));
                run(x, text);
                due(2, run(x, "d0;d0"));
                due(0, x.count(1));
            }
        });
        test("the first fault counts, also if there are more", () -> dueFault(1, "cc=="));
        test("a text that is wrong at its end carries out nothing before it", () -> {
            PodcastEditor x = one();
            due(-1008, run(x, "c1=1;d0;"));
            due(0, x.count(2));
            due(1, x.count(1));
        });
    }

    /** A refused text, and behind it the one that busy() was refused, so that this is what was refused last. */
    private static int executeAgain(PodcastEditor x, String text) {
        int answer = run(x, text);
        run(x, "c1=1;m0@25");
        return answer;
    }

    private static void refusals() {
        part("Text");
        test("a command is refused if the method for it returns an error code, each of them", () -> {
            String[] texts = {"d4", "x5-5", "i0+1", "s9@1", "s0@0", "m9@1", "m0@581", "m0@25", "c600=1", "c1=100", "i599+1",
                "m4@0", "m999@0", "s999@1", "d999"};
            int[] codes = {NONE, BAD, BAD, NONE, BAD, NONE, BAD, OVERLAP, BAD, BAD, BAD, NONE, NONE, NONE, NONE};
            for (int i = 0; i < texts.length; i++) {
                PodcastEditor x = idle();
                due(REFUSED, run(x, texts[i]));
                due(codes[i], x.refused(0));
                due(0, x.refused(1));
            }
            String[] full = {"s0@1", "x0-600;c1=1", "i1+1", "x1-2"};
            for (int i = 0; i < full.length; i++) {
                PodcastEditor x = crowd(24);
                x.trim(23, 1, -1);
                x.moveClip(23, 1, 0);
                due(i == 1 ? 2 : REFUSED, run(x, full[i]));
                due(i == 1 ? NOTHING : FULL, x.refused(0));
            }
            PodcastEditor y = Edges.chapters(12);
            due(REFUSED, run(y, "c10=5;c11=5"));
            due(FULL, y.refused(0));
            due(1, y.refused(1));
        });
        test("an answer of 0 is no refusal", () -> {
            PodcastEditor x = one();
            due(4, run(x, "c0=0;x200-300;m0@0;d0"));
            due(0, x.count(1));
        });
        part("In doubt");
        test("commands are done one after the other, with the clips as they are then", () -> {
            PodcastEditor x = one();
            due(5, run(x, "s0@5;m1@0;m1@50;m0@20;d1"));
            dueClips(x, 1, 20, 25, 5);
            due(REFUSED, run(x, "d0;d0"));
            due(1, x.refused(1));
            due(2, run(x, "s0@1;d1"));
            dueClips(x, 1, 20, 25, 1);
        });
    }

    /** The changes by number; each one succeeds on changing(). */
    private static int change(PodcastEditor x, int which) {
        switch (which) {
            case 0: return x.addSource(0, 1, 0, 0);
            case 1: return x.set(0, x.count(8));
            case 2: return x.setTrack(0, 0, x.track(0, 0));
            case 3: return x.addClip(3, 0, 0, 0, 1);
            case 4: return x.setClip(0, 0, x.clip(0, 5));
            case 5: return x.moveClip(0, 0, x.clip(0, 1));
            case 6: return x.copyClip(0, 3, 300);
            case 7: return x.trim(0, 0, 0);
            case 8: return x.divide(0, 1);
            case 9: return x.remove(0);
            case 10: return x.cut(500, 600);
            case 11: return x.tighten(1, 600);
            case 12: return x.insert(599, 1);
            case 13: return x.chapter(5, x.ofChapter(0, 1));
            case 14: return x.dropChapter(0);
            case 15: return x.normalize(999);
            default: return run(x, "c5=1");
        }
    }

    private static final String[] CHANGES = {"addSource", "set", "setTrack", "addClip", "setClip", "moveClip", "copyClip",
        "trim", "divide", "remove", "cut", "tighten", "insert", "chapter", "dropChapter", "normalize", "execute"};

    /** A step behind and one ahead. */
    private static PodcastEditor changing() {
        PodcastEditor x = heard(400, 0, 100);
        x.chapter(5, 1);
        x.save();
        x.restore();
        x.set(2, 20);
        x.set(2, 30);
        x.undo();
        return x;
    }

    private static void changes() {
        part("Steps");
        for (int i = 0; i < CHANGES.length; i++) {
            int which = i;
            test("a successful " + CHANGES[i] + " is a step, also one by which nothing changes", () -> {
                PodcastEditor x = changing();
                due(0, Math.min(0, change(x, which)));
                due(2, x.count(4));
                due(0, x.count(5));
                due(1, x.undo());
                due(0, x.redo());
                due(2, x.count(4));
                due(NOTHING, x.redo());
            });
            test("a successful " + CHANGES[i] + " is undone as a whole, and redone", () -> {
                same(TextAndStepsTest::changing, x -> change(x, which) < 0 ? 1 : x.undo() + x.redo(), x -> change(x, which));
                PodcastEditor x = changing();
                List<Integer> before = picture(x);
                change(x, which);
                x.undo();
                x.redo();
                x.undo();
                // The one that was ahead before is the one that was undone now.
                due(1, before.equals(picture(x)) ? 1 : 0);
            });
            test(CHANGES[i] + " in a group is one of its changes", () -> {
                PodcastEditor x = changing();
                x.begin();
                change(x, which);
                due(0, x.count(5));
                due(1, x.end());
                due(2, x.count(4));
            });
        }
        test("what only asks, and append, write, begin, end, save are no changes", () -> {
            Ask[] calls = {x -> x.source(0, 5), x -> x.sourceValue(0, 0), x -> x.track(0, 11), x -> x.clip(0, 9),
                x -> x.room(0, 0, 600), x -> x.clipAt(0, 0), x -> x.explain(0, 0), x -> x.ofChapter(0, 3), x -> x.chapterAt(0),
                x -> x.value(0, 0, 2), x -> x.mix(0), x -> x.peak(0), x -> x.level(0), x -> x.loudness(4), x -> x.masterFor(50),
                x -> x.covered(0), x -> x.loudnessAgain(), x -> x.silence(1, 1, -1, 0), x -> x.ifCut(0, 5, 1), x -> x.event(0, 0),
                x -> x.append('c'), x -> x.refused(0), x -> x.write(), x -> x.written(0), x -> x.save(), x -> x.count(0),
                x -> x.begin() + x.end()};
            for (Ask call : calls) {
                PodcastEditor x = changing();
                call.of(x);
                due(1, x.count(4));
                due(1, x.count(5));
            }
        });
    }

    private static void steps() {
        part("Steps");
        test("the latest 10 steps can be undone: 10 of 10", () -> {
            PodcastEditor x = empty();
            for (int i = 1; i <= 10; i++) {
                x.set(0, i);
                due(i, x.count(4));
            }
            for (int i = 9; i >= 0; i--) {
                due(i, x.undo());
            }
            due(100, x.count(8));
            due(NOTHING, x.undo());
        });
        test("10 of 11, and the first one stays done", () -> {
            PodcastEditor x = empty();
            for (int i = 1; i <= 11; i++) {
                x.set(0, i);
            }
            due(10, x.count(4));
            for (int i = 9; i >= 0; i--) {
                due(i, x.undo());
            }
            due(NOTHING, x.undo());
            due(1, x.count(8));
        });
        test("10 of 35", () -> {
            PodcastEditor x = empty();
            for (int i = 1; i <= 35; i++) {
                x.set(0, i);
            }
            for (int i = 9; i >= 0; i--) {
                due(i, x.undo());
                due(25 + i, x.count(8));
            }
            due(NOTHING, x.undo());
        });
        test("those that were undone can be redone, all 10", () -> {
            PodcastEditor x = empty();
            for (int i = 1; i <= 12; i++) {
                x.set(0, i);
            }
            for (int i = 0; i < 10; i++) {
                x.undo();
                due(i + 1, x.count(5));
            }
            for (int i = 9; i >= 0; i--) {
                due(i, x.redo());
                due(12 - i, x.count(8));
            }
            due(NOTHING, x.redo());
            due(10, x.count(4));
        });
        test("they can be redone until the next change", () -> {
            PodcastEditor x = empty();
            x.set(0, 1);
            x.set(0, 2);
            x.undo();
            x.undo();
            due(BAD, x.set(0, 401));
            due(2, x.count(5));
            x.set(0, 3);
            due(0, x.count(5));
            due(NOTHING, x.redo());
            due(1, x.count(4));
            x.undo();
            due(100, x.count(8));
            due(0, x.redo());
            due(3, x.count(8));
        });
        test("with 10 steps behind, of which some are undone, a change makes room again", () -> {
            PodcastEditor x = empty();
            for (int i = 1; i <= 13; i++) {
                x.set(0, i);
            }
            x.undo();
            x.undo();
            x.undo();
            due(7, x.count(4));
            x.set(0, 50);
            due(8, x.count(4));
            for (int i = 7; i >= 0; i--) {
                due(i, x.undo());
            }
            due(3, x.count(8));
        });
    }

    private static void groups() {
        part("Steps");
        test("all changes of a group are one step", () -> {
            PodcastEditor x = empty();
            x.set(0, 1);
            x.begin();
            x.set(0, 2);
            x.set(1, 20);
            x.set(0, 3);
            due(3, x.end());
            due(2, x.count(4));
            due(1, x.undo());
            due(1, x.count(8));
            due(10, x.count(9));
            due(0, x.redo());
            due(3, x.count(8));
            due(20, x.count(9));
        });
        test("a group of one change is one step", () -> {
            PodcastEditor x = empty();
            x.begin();
            x.set(0, 2);
            due(1, x.end());
            due(1, x.count(4));
        });
        test("a group of more than 10 changes is one step", () -> {
            PodcastEditor x = empty();
            x.set(0, 300);
            x.begin();
            for (int i = 1; i <= 25; i++) {
                x.set(0, i);
            }
            due(25, x.end());
            due(2, x.count(4));
            due(1, x.undo());
            due(300, x.count(8));
        });
        test("a group is the eleventh step, and the first one can be undone no more", () -> {
            PodcastEditor x = empty();
            for (int i = 1; i <= 10; i++) {
                x.set(0, i);
            }
            due(10, x.begin());
            x.set(0, 11);
            x.set(0, 12);
            x.end();
            due(10, x.count(4));
            due(9, x.undo());
            due(10, x.count(8));
            for (int i = 8; i >= 0; i--) {
                due(i, x.undo());
            }
            due(1, x.count(8));
        });
        test("an empty group is no step, and what was undone can still be redone", () -> {
            same(TextAndStepsTest::changing, x -> x.begin() + x.end(), x -> 0);
            PodcastEditor x = changing();
            x.begin();
            x.mix(0);
            x.set(0, 401);
            due(0, x.end());
            due(1, x.count(4));
            due(0, x.redo());
        });
        test("in a group what was undone can be redone no more from its first change on", () -> {
            PodcastEditor x = changing();
            x.begin();
            due(1, x.count(5));
            x.set(0, 5);
            due(0, x.count(5));
            x.end();
            due(NOTHING, x.redo());
        });
        test("while a group is open, nothing can be undone", () -> refuses(Edges::open, REFUSED, x -> x.undo()));
        test("while a group is open, nothing can be redone", () -> {
            refuses(Edges::open, REFUSED, x -> x.redo());
            PodcastEditor x = changing();
            x.begin();
            due(REFUSED, x.redo());
        });
        test("while a group is open, nothing can be restored", () -> refuses(Edges::open, REFUSED, x -> x.restore()));
        test("while an empty group is open, nothing can be undone, redone or restored either", () ->
            refuses(() -> {
                PodcastEditor x = busy();
                x.begin();
                return x;
            }, REFUSED, x -> x.undo(), x -> x.redo(), x -> x.restore(), x -> x.begin()));
        test("when it is closed, all can be undone, redone and restored again", () -> {
            PodcastEditor x = open();
            x.end();
            due(9, x.undo());
            due(0, x.redo());
            due(4, x.restore());
        });
    }

    private static void inDoubt() {
        part("In doubt");
        test("a dry value can be above 999", () -> {
            PodcastEditor x = heard(999, 0, 1);
            x.setTrack(0, 0, 200);
            due(1998, x.value(0, 0, 1));
            due(1998, x.value(0, 0, 2));
            due(1998, x.track(0, 11));
            due(999, x.mix(0));
        });
        test("a ducker counts whether it is audible or not: muted, and when another one is solo", () -> {
            PodcastEditor x = heard(500, 0, 10);
            x.addClip(1, 0, 0, 0, 10);
            x.setTrack(0, 3, 1);
            x.setTrack(1, 1, 1);
            due(1, x.value(0, 0, 3));
            due(250, x.mix(0));
            x.setTrack(1, 1, 0);
            x.setTrack(0, 2, 1);
            due(0, x.track(1, 7));
            due(250, x.mix(0));
        });
        test("with the threshold 0 a ducker counts at each frame, also without clips", () -> {
            PodcastEditor x = heard(500, 0, 200);
            x.setTrack(0, 3, 1);
            x.setTrack(0, 4, 0);
            x.setTrack(0, 6, 0);
            for (int frame : new int[] {0, 1, 199, 200, 599}) {
                due(1, x.value(0, frame, 3));
            }
            due(200, x.track(0, 10));
            x.setTrack(0, 4, 1);
            due(0, x.value(0, 0, 3));
        });
        test("a solo track that is muted is solo for the others", () -> {
            PodcastEditor x = heard(500, 0, 10);
            x.addClip(1, 0, 0, 0, 10);
            x.setTrack(1, 1, 1);
            x.setTrack(1, 2, 1);
            due(0, x.track(1, 7));
            due(0, x.track(0, 7));
            due(0, x.mix(0));
            due(2, x.explain(1, 0));
            due(3, x.explain(0, 0));
        });
        test("both fades, that in first: the last frame of the one is just before the first frame of the other", () -> {
            PodcastEditor x = heard(900, 0, 2);
            x.setClip(0, 1, 1);
            x.setClip(0, 2, 1);
            due(450, x.value(0, 0, 0));
            due(450, x.value(0, 1, 0));
        });
        test("the greatest of no values is 0", () -> {
            dueAll(Edges::empty, 0, x -> x.peak(1), x -> x.peak(2), x -> x.track(0, 11));
            PodcastEditor x = heard(500, 0, 10);
            x.chapter(10, 1);
            due(0, x.ofChapter(0, 2));
            due(0, x.ofChapter(0, 3));
        });
        test("for masterFor all masters are looked at, also if the loudness falls between them", () -> {
            PodcastEditor x = heard(100, 0, 10);
            x.addClip(0, 10, 0, 0, 10);
            x.setClip(1, 0, 10);
            x.set(3, 0);
            // The soft window is quiet up to 99, where the loudness is 9801; with 100 it is 5050, with 119 it is 7141.
            due(119, x.masterFor(85));
            due(70, x.masterFor(70));
            x.set(0, 99);
            due(9801, x.loudness(4));
            x.set(0, 100);
            due(5050, x.loudness(4));
        });
    }

    private static void errors() {
        part("Errors");
        test("the snapshot contains the sources", () -> {
            PodcastEditor x = tone(5);
            x.save();
            x.addSource(0, 1, 9, 0);
            x.restore();
            due(1, x.count(0));
            due(5, x.source(0, 2));
            x.addSource(0, 1, 9, 0);
            due(9, x.source(1, 2));
        });
        test("the snapshot contains the sources as they were, also if others came in their place", () -> {
            PodcastEditor x = tone(5);
            x.save();
            x.undo();
            x.addSource(1, 30, 7, 8);
            due(7, x.sourceValue(0, 0));
            x.restore();
            int[] numbers = {0, 200, 5, 0};
            for (int what = 0; what < 4; what++) {
                due(numbers[what], x.source(0, what));
            }
            due(5, x.sourceValue(0, 199));
        });
        test("the snapshot contains the clips", () -> {
            PodcastEditor x = one();
            x.save();
            x.setClip(0, 0, 1);
            x.setClip(0, 1, 0);
            x.setClip(0, 2, 0);
            x.trim(0, 0, 3);
            x.moveClip(0, 3, 5);
            x.restore();
            dueClip(x, 0, 1, 100, 0, 20, 10, 70, 3, 4);
        });
        test("the snapshot contains the tracks", () -> {
            PodcastEditor x = empty();
            x.save();
            for (int what = 0; what < 7; what++) {
                x.setTrack(2, what, 1);
            }
            x.restore();
            int[] atFirst = {100, 0, 0, NOTHING, 100, 50, 5};
            for (int what = 0; what < 7; what++) {
                due(atFirst[what], x.track(2, what));
            }
        });
        test("the snapshot contains the chapters", () -> {
            PodcastEditor x = Edges.chapters(3);
            x.save();
            x.dropChapter(1);
            x.chapter(10, 9);
            x.restore();
            dueChapters(x, 10, 1, 20, 2, 30, 3);
        });
        test("the snapshot contains the settings", () -> {
            PodcastEditor x = empty();
            x.save();
            int[] atFirst = {100, 10, 10, 25, 0};
            for (int what = 0; what < 5; what++) {
                x.set(what, what == 1 ? 5 : 1);
            }
            x.restore();
            for (int what = 0; what < 5; what++) {
                due(atFirst[what], x.count(8 + what));
            }
        });
        test("undo gives back the same: sources, clips, tracks, chapters and settings", () -> {
            PodcastEditor x = one();
            x.begin();
            x.addSource(0, 1, 9, 0);
            x.moveClip(0, 3, 5);
            x.setTrack(2, 0, 1);
            x.chapter(4, 4);
            x.set(4, 2);
            x.end();
            x.undo();
            due(1, x.count(0));
            dueClip(x, 0, 1, 100, 0, 20, 10, 70, 3, 4);
            due(100, x.track(2, 0));
            due(0, x.count(2));
            due(0, x.count(12));
        });
        test("the text stays when there is an undo, a redo and a restore", () -> {
            PodcastEditor x = changing();
            type(x, "c9=");
            x.undo();
            due(3, x.count(7));
            x.redo();
            x.append('9');
            x.restore();
            due(4, x.count(7));
            due(1, x.execute());
            dueChapters(x, 5, 1, 9, 9);
        });
        test("the written text stays when there is an undo, a redo and a restore", () -> {
            PodcastEditor x = changing();
            due(4, x.write());
            x.dropChapter(0);
            x.undo();
            x.redo();
            due('1', x.written(3));
            x.restore();
            due('c', x.written(0));
            due('5', x.written(1));
            due(NONE, x.written(4));
        });
        test("what was refused stays when there is an undo, a redo and a restore", () -> {
            PodcastEditor x = changing();
            run(x, "c1=1;d7");
            x.undo();
            due(NONE, x.refused(0));
            x.redo();
            due(1, x.refused(1));
            x.restore();
            due(NONE, x.refused(0));
            due(1, x.refused(1));
        });
        test("execute empties the text, also if it returns an error code", () -> {
            PodcastEditor x = one();
            due(REFUSED, run(x, "d5"));
            due(0, x.count(7));
            due(-1000, run(x, "y"));
            due(0, x.count(7));
            due(1, run(x, "d0"));
            due(0, x.count(7));
        });
        test("execute that is refused leaves the state unchanged but for what was refused", () ->
            refuses(Edges::idle, REFUSED, x -> executeAgain(x, "c9=9;x3-5;i2+2;d1;s0@2;m0@300;d9")));
    }

    private static void constants() {
        part("The constants");
        test("NONE is -1", () -> due(-1, PodcastEditor.NONE));
        test("BAD is -2", () -> due(-2, PodcastEditor.BAD));
        test("FULL is -3", () -> due(-3, PodcastEditor.FULL));
        test("OVERLAP is -4", () -> due(-4, PodcastEditor.OVERLAP));
        test("REFUSED is -5", () -> due(-5, PodcastEditor.REFUSED));
        test("NOTHING is -6", () -> due(-6, PodcastEditor.NOTHING));
    }
}
