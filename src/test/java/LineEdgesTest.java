import java.util.List;
import java.util.Set;
import java.util.TreeSet;
import java.util.function.Supplier;

/** Promises 1 to 8, 15 and 16: each sentence that names a boundary case, under its promise's number. */
public final class LineEdgesTest {
    private static final int NONE = VoiceDesk.NONE;
    private static final int LEAST = Refusals.LEAST;
    private static final int MOST = Refusals.MOST;
    private static final int CLOSED = Scene.CLOSED;
    private static final int[] WAYS = {64, 56, 48};

    /** Together they have every kind, closed lines, and a TAPE that is empty, in use, and full. */
    private static final Scene[] SCENES = {
        new Scene(0, CLOSED, CLOSED, CLOSED, CLOSED),
        new Scene(1000, 2, 3, 4, 5),
        new Scene(23, CLOSED, 6, 7, 8),
        new Scene(40, 0, CLOSED, 1, CLOSED)
    };
    private static final int[][] KINDS = {
        {CLOSED, CLOSED, CLOSED, CLOSED}, {2, 3, 4, 5}, {CLOSED, 6, 7, 8}, {0, CLOSED, 1, CLOSED}
    };

    public static void main(String[] args) {
        promise1();
        promise2Refused();
        promise2OnceMore();
        promise3();
        promise4();
        promise5();
        promise6();
        promise7();
        promise8();
        promise15Refused();
        promise15SameLine();
        promise16();
        Check.end();
    }

    /** "All LINES closed, OUT and the TAPE empty." */
    private static void promise1() {
        SCENES[1].get();
        List<Integer> shown = Picture.of(VoiceDesk::new);
        for (int l = 0; l < 4; l++) {
            for (int answer : Picture.line(VoiceDesk::new, l)) {
                Check.none("1: what a new line shows", answer);
            }
        }
        for (int answer : Picture.out(VoiceDesk::new)) {
            Check.none("1: what a new OUT shows", answer);
        }
        Check.same("1: the length of a new TAPE", Picture.tapeLength(new VoiceDesk()), 0);
        Check.none("1: end(1) of a new TAPE", new VoiceDesk().end(1));
        Check.same("1: take of a new OUT", new VoiceDesk().take(), 0);
        VoiceDesk desk = new VoiceDesk();
        desk.open(0, 0);
        Check.same("1: unpack of no codes on a new TAPE", desk.unpack(0, true, 0), 0);
        Check.none("1: unpack of one code on a new TAPE", desk.unpack(0, true, 1));
        Check.holds("1: new objects are alike", shown.equals(Picture.of(VoiceDesk::new)));
    }

    private static int asInt(boolean opened) {
        return opened ? 1 : NONE;
    }

    /** "false, and nothing is done, for another l or KIND" */
    private static void promise2Refused() {
        for (Scene scene : SCENES) {
            for (int l : new int[] {LEAST, -1, 4, MOST}) {
                for (int kind : new int[] {0, 4, 8}) {
                    Refusals.none("2: open(" + l + ", " + kind + ")", scene, d -> asInt(d.open(l, kind)));
                }
            }
            for (int l = 0; l < 4; l++) {
                int line = l;
                for (int kind : new int[] {LEAST, -1, 9, MOST}) {
                    Refusals.none("2: open(" + l + ", " + kind + ")", scene, d -> asInt(d.open(line, kind)));
                }
            }
        }
        for (int l : new int[] {0, 3}) {
            for (int kind : new int[] {0, 8}) {
                VoiceDesk desk = new VoiceDesk();
                Check.same("2: open(" + l + ", " + kind + ")", desk.open(l, kind), true);
                Check.same("2: its kind", desk.kind(l), kind);
                Check.none("2: another line's kind", desk.kind(3 - l));
            }
        }
    }

    /** "speaker and hearer begun anew": the line is as of a new object; all else is as it was. */
    private static void promise2OnceMore() {
        for (int old = 0; old <= 8; old++) {
            Scene scene = new Scene(9, 3, old, 6, CLOSED);
            for (int kind = 0; kind <= 8; kind++) {
                int newKind = kind;
                String name = "2: a line of kind " + old + " opened with " + kind;
                Supplier<VoiceDesk> again = () -> {
                    VoiceDesk desk = scene.get();
                    Check.same(name, desk.open(1, newKind), true);
                    return desk;
                };
                Supplier<VoiceDesk> fresh = () -> {
                    VoiceDesk desk = new VoiceDesk();
                    desk.open(1, newKind);
                    return desk;
                };
                Check.holds(name + ": begun anew", Picture.line(again, 1).equals(Picture.line(fresh, 1)));
                for (int l = 0; l < 4; l += l == 0 ? 2 : 1) {
                    Check.holds(name + ": line " + l + " stays", Picture.line(again, l).equals(Picture.line(scene, l)));
                }
                Check.holds(name + ": OUT stays", Picture.out(again).equals(Picture.out(scene)));
                Check.holds(name + ": the TAPE stays", Picture.tape(again).equals(Picture.tape(scene)));
                sameVoice(name, again.get(), fresh.get(), kind);
            }
        }
    }

    private static void sameVoice(String name, VoiceDesk desk, VoiceDesk other, int kind) {
        for (int i = 0; i < 5; i++) {
            int x = 4000 - 3000 * i;
            int code = Scene.wide(kind) ? desk.pair(1, x, -x) : desk.say(1, x);
            Check.same(name + ": code", code, Scene.wide(kind) ? other.pair(1, x, -x) : other.say(1, x));
            Check.same(name + ": sample", desk.hear(1, code), other.hear(1, code));
            Check.same(name + ": second", desk.second(1), other.second(1));
        }
    }

    /** "NONE if it is closed, or there is none such." */
    private static void promise3() {
        for (int s = 0; s < SCENES.length; s++) {
            Scene scene = SCENES[s];
            for (int l = 0; l < 4; l++) {
                int line = l;
                Check.same("3: kind(" + l + ")", scene.get().kind(l), KINDS[s][l] == CLOSED ? NONE : KINDS[s][l]);
                Refusals.nothingDone("3: kind(" + l + ")", scene, d -> d.kind(line));
            }
            for (int l : new int[] {LEAST, -1, 4, MOST}) {
                Refusals.none("3: kind(" + l + ")", scene, d -> d.kind(l));
            }
        }
    }

    /** "NONE, and nothing is done, if that can't be": the LINE, its KIND, the sample. */
    private static void promise4() {
        for (int s = 0; s < SCENES.length; s++) {
            Scene scene = SCENES[s];
            for (int l : new int[] {LEAST, -1, 4, MOST}) {
                Refusals.none("4: say(" + l + ", 0)", scene, d -> d.say(l, 0));
            }
            for (int l = 0; l < 4; l++) {
                int line = l;
                for (int x : new int[] {LEAST, -32769, 32768, 65536, MOST}) {
                    Refusals.none("4: say(" + l + ", " + x + ")", scene, d -> d.say(line, x));
                }
                if (KINDS[s][l] == CLOSED || KINDS[s][l] >= 6) {
                    for (int x : new int[] {-32768, 0, 32767}) {
                        Refusals.none("4: say(" + l + ", " + x + ")", scene, d -> d.say(line, x));
                    }
                }
            }
        }
        for (int kind = 0; kind <= 5; kind++) {
            for (int x : new int[] {-32768, -32767, -1, 0, 1, 32766, 32767}) {
                VoiceDesk desk = new VoiceDesk();
                desk.open(0, kind);
                int due = kind < 2 ? LawModel.code(kind, x) : new AdpcmModel(kind).say(x);
                Check.same("4: kind " + kind + " says " + x, desk.say(0, x), due);
            }
        }
    }

    /** "Likewise v, then w, of KINDS 6 .. 8." */
    private static void promise5() {
        for (int s = 0; s < SCENES.length; s++) {
            Scene scene = SCENES[s];
            for (int l : new int[] {LEAST, -1, 4, MOST}) {
                Refusals.none("5: pair(" + l + ", 0, 0)", scene, d -> d.pair(l, 0, 0));
            }
            for (int l = 0; l < 4; l++) {
                int line = l;
                for (int x : new int[] {LEAST, -32769, 32768, 65536, MOST}) {
                    Refusals.none("5: pair(" + l + ", " + x + ", 0)", scene, d -> d.pair(line, x, 0));
                    Refusals.none("5: pair(" + l + ", 0, " + x + ")", scene, d -> d.pair(line, 0, x));
                    Refusals.none("5: pair(" + l + ", " + x + ", " + x + ")", scene, d -> d.pair(line, x, x));
                }
                if (KINDS[s][l] < 6) {
                    for (int x : new int[] {-32768, 0, 32767}) {
                        Refusals.none("5: pair(" + l + ", " + x + ", " + x + ")", scene, d -> d.pair(line, x, x));
                    }
                }
            }
        }
        int[] edges = {-32768, -32767, -1, 0, 1, 32766, 32767};
        for (int kind = 6; kind <= 8; kind++) {
            for (int v : edges) {
                for (int w : edges) {
                    VoiceDesk desk = new VoiceDesk();
                    desk.open(0, kind);
                    String call = "5: pair(0, " + v + ", " + w + ")";
                    Check.same(call, desk.pair(0, v, w), new WideModel().pair(v, w));
                    Check.same(call + " v in the SIEVE", desk.inner(0, 0, 82), v);
                    Check.same(call + " w in the SIEVE", desk.inner(0, 0, 83), w);
                }
            }
        }
    }

    /** "NONE, and nothing is done: closed, or a code that is none (below 0, or of more bits)." */
    private static void promise6() {
        for (int s = 0; s < SCENES.length; s++) {
            Scene scene = SCENES[s];
            for (int l : new int[] {LEAST, -1, 4, MOST}) {
                Refusals.none("6: hear(" + l + ", 0)", scene, d -> d.hear(l, 0));
            }
            for (int l = 0; l < 4; l++) {
                int line = l;
                int beyond = KINDS[s][l] == CLOSED ? 0 : 1 << Scene.bits(KINDS[s][l]);
                for (int code : new int[] {LEAST, -256, -2, -1, beyond, beyond + 1, 256, 65536, MOST}) {
                    Refusals.none("6: hear(" + l + ", " + code + ")", scene, d -> d.hear(line, code));
                }
            }
        }
        for (int kind = 0; kind <= 8; kind++) {
            for (int code : new int[] {0, 1, (1 << Scene.bits(kind)) - 2, (1 << Scene.bits(kind)) - 1}) {
                VoiceDesk desk = new VoiceDesk();
                desk.open(0, kind);
                Check.same("6: kind " + kind + " hears " + code, desk.hear(0, code), firstHeard(kind, code));
            }
        }
    }

    private static int firstHeard(int kind, int code) {
        if (kind < 2) {
            return LawModel.sample(kind, code);
        }
        return kind < 6 ? new AdpcmModel(kind).hear(code) : new WideModel().hear(code, WAYS[kind - 6]);
    }

    /** "the second sample that was heard latest, 0 ahead of any; NONE of others." */
    private static void promise7() {
        for (int s = 0; s < SCENES.length; s++) {
            Scene scene = SCENES[s];
            for (int l : new int[] {LEAST, -1, 4, MOST}) {
                Refusals.none("7: second(" + l + ")", scene, d -> d.second(l));
            }
            for (int l = 0; l < 4; l++) {
                int line = l;
                Check.same("7: second(" + l + ") is NONE", scene.get().second(l) == NONE, KINDS[s][l] < 6);
                Refusals.nothingDone("7: second(" + l + ")", scene, d -> d.second(line));
            }
        }
        for (int kind = 6; kind <= 8; kind++) {
            VoiceDesk desk = new VoiceDesk();
            desk.open(0, kind);
            desk.open(1, kind);
            Check.same("7: ahead of any", desk.second(0), 0);
            desk.pair(0, 20000, -20000);
            Check.none("7: a code that is none", desk.hear(0, 256));
            Check.same("7: still ahead of any", desk.second(0), 0);
            WideModel model = new WideModel();
            for (int code : new int[] {160, 4, 160, 4, 77}) {
                desk.hear(0, code);
                model.hear(code, WAYS[kind - 6]);
                Check.same("7: after hear", desk.second(0), model.second());
            }
            Check.none("7: a code that is none", desk.hear(0, -1));
            Check.same("7: the latest is still the latest", desk.second(0), model.second());
            Check.holds("7: and not 0", model.second() != 0);
            Check.same("7: another line's", desk.second(1), 0);
            secondOfOtherWays(desk, model, kind);
        }
    }

    private static void secondOfOtherWays(VoiceDesk desk, WideModel model, int kind) {
        desk.pass(0, 1, 33);
        model.hear(33, WAYS[kind - 6]);
        Check.same("7: after pass", desk.second(0), model.second());
        Check.same("7: of the line that said it", desk.second(1), 0);
        Tapes.feedBytes(desk, new int[] {200, 9});
        desk.unpack(0, true, 2);
        model.hear(200, WAYS[kind - 6]);
        model.hear(9, WAYS[kind - 6]);
        Check.same("7: after unpack", desk.second(0), model.second());
        desk.open(0, 4);
        Check.none("7: of another kind", desk.second(0));
        desk.open(0, kind);
        Check.same("7: begun anew", desk.second(0), 0);
    }

    /** "NONE if there is none such (of G.711 there are none)" */
    private static void promise8() {
        for (int s = 0; s < SCENES.length; s++) {
            Scene scene = SCENES[s];
            for (int l : new int[] {LEAST, -1, 4, MOST}) {
                Refusals.none("8: inner(" + l + ", 0, 0)", scene, d -> d.inner(l, 0, 0));
            }
            for (int l = 0; l < 4; l++) {
                int line = l;
                for (int side : new int[] {LEAST, -1, 2, MOST}) {
                    Refusals.none("8: inner(" + l + ", " + side + ", 0)", scene, d -> d.inner(line, side, 0));
                }
                for (int what : new int[] {LEAST, -1, 84, 85, MOST}) {
                    Refusals.none("8: inner(" + l + ", 0, " + what + ")", scene, d -> d.inner(line, 0, what));
                    Refusals.none("8: inner(" + l + ", 1, " + what + ")", scene, d -> d.inner(line, 1, what));
                }
                innerRanges(scene, l, KINDS[s][l]);
                Refusals.nothingDone("8: inner(" + l + ", 0, 0)", scene, d -> d.inner(line, 0, 0));
            }
        }
    }

    private static void innerRanges(Scene scene, int l, int kind) {
        Set<Integer> there = new TreeSet<>();
        if (kind >= 2 && kind <= 5) {
            addRange(there, 0, 23);
        } else if (kind >= 6) {
            addRange(there, 0, 22);
            addRange(there, 30, 52);
            addRange(there, 60, 83);
        }
        VoiceDesk desk = scene.get();
        for (int side = 0; side < 2; side++) {
            for (int what = -5; what <= 130; what++) {
                String call = "8: kind " + kind + " inner(" + l + ", " + side + ", " + what + ") is there";
                Check.same(call, desk.inner(l, side, what) != NONE, there.contains(what));
            }
        }
    }

    private static void addRange(Set<Integer> there, int least, int most) {
        for (int what = least; what <= most; what++) {
            there.add(what);
        }
    }

    /** "NONE, and nothing is done: as of hear(); m is closed, or just one of both is of KINDS 6 .. 8." */
    private static void promise15Refused() {
        Scene[] scenes = {new Scene(5, 2, 6, CLOSED, 0), new Scene(5, 8, 5, 7, CLOSED), new Scene(0, 3, 1, 4, 6)};
        int[][] kinds = {{2, 6, CLOSED, 0}, {8, 5, 7, CLOSED}, {3, 1, 4, 6}};
        for (int s = 0; s < scenes.length; s++) {
            for (int l = 0; l < 4; l++) {
                for (int m = 0; m < 4; m++) {
                    passAmong(scenes[s], l, m, kinds[s][l], kinds[s][m]);
                }
                int line = l;
                for (int other : new int[] {LEAST, -1, 4, MOST}) {
                    Refusals.none("15: pass(" + l + ", " + other + ", 0)", scenes[s], d -> d.pass(line, other, 0));
                    Refusals.none("15: pass(" + other + ", " + l + ", 0)", scenes[s], d -> d.pass(other, line, 0));
                }
            }
        }
    }

    private static void passAmong(Scene scene, int l, int m, int from, int to) {
        boolean fits = from != CLOSED && to != CLOSED && from >= 6 == to >= 6;
        int beyond = from == CLOSED ? 0 : 1 << Scene.bits(from);
        for (int code : new int[] {LEAST, -1, beyond, 256, MOST}) {
            Refusals.none("15: pass(" + l + ", " + m + ", " + code + ")", scene, d -> d.pass(l, m, code));
        }
        for (int code : new int[] {0, Math.max(0, beyond - 1)}) {
            String call = "15: pass(" + l + ", " + m + ", " + code + ")";
            if (!fits) {
                Refusals.none(call, scene, d -> d.pass(l, m, code));
                continue;
            }
            Supplier<VoiceDesk> passed = () -> {
                VoiceDesk desk = scene.get();
                desk.pass(l, m, code);
                return desk;
            };
            Supplier<VoiceDesk> byHand = () -> {
                VoiceDesk desk = scene.get();
                passByHand(desk, l, m, code);
                return desk;
            };
            Check.same(call, scene.get().pass(l, m, code), passByHand(scene.get(), l, m, code));
            Check.holds(call + " is as by hand", Picture.of(passed).equals(Picture.of(byHand)));
        }
    }

    private static int passByHand(VoiceDesk desk, int l, int m, int code) {
        int heard = desk.hear(l, code);
        return desk.kind(l) >= 6 ? desk.pair(m, heard, desk.second(l)) : desk.say(m, heard);
    }

    /** l and m the same LINE: its hearer hears, its speaker says. */
    private static void promise15SameLine() {
        for (int kind = 0; kind <= 8; kind++) {
            VoiceDesk desk = new VoiceDesk();
            VoiceDesk other = new VoiceDesk();
            desk.open(2, kind);
            other.open(2, kind);
            for (int code : Signals.codes(kind + 3, 60, Scene.bits(kind))) {
                Check.same("15: pass(2, 2) of kind " + kind, desk.pass(2, 2, code), passByHand(other, 2, 2, code));
            }
            Check.holds("15: the same line after it", Picture.line(() -> desk, 2).equals(Picture.line(() -> other, 2)));
        }
    }

    /** "NONE for others": kind, code and what. */
    private static void promise16() {
        VoiceDesk desk = new VoiceDesk();
        for (int code : new int[] {0, 128, 255}) {
            for (int what = 0; what <= 2; what++) {
                for (int kind : new int[] {LEAST, -1, 2, 3, 6, 8, 9, MOST}) {
                    Check.none("16: law(" + kind + ", " + code + ", " + what + ")", desk.law(kind, code, what));
                }
            }
        }
        for (int kind = 0; kind <= 1; kind++) {
            for (int what : new int[] {LEAST, -1, 3, 4, MOST}) {
                Check.none("16: law(" + kind + ", 0, " + what + ")", desk.law(kind, 0, what));
                Check.none("16: law(" + kind + ", 255, " + what + ")", desk.law(kind, 255, what));
            }
            for (int what = 0; what <= 2; what++) {
                for (int code : new int[] {LEAST, -1, 256, 257, MOST}) {
                    Check.none("16: law(" + kind + ", " + code + ", " + what + ")", desk.law(kind, code, what));
                }
            }
        }
        lawWithin();
        Refusals.nothingDone("16: law(0, 0, 0)", SCENES[3], d -> d.law(0, 0, 0));
        Refusals.nothingDone("16: law(1, 255, 2)", SCENES[3], d -> d.law(1, 255, 2));
        Refusals.nothingDone("16: law(0, 256, 2)", SCENES[3], d -> d.law(0, 256, 2));
    }

    /** By hand from the document: the first and the last code, and the 0 that no sample is said as. */
    private static void lawWithin() {
        int[][] rows = {
            {0, 0, -32768, -31609, 0}, {0, 255, 0, 3, 255}, {0, 128, 31612, 32767, 128}, {0, 127, NONE, NONE, 255},
            {0, 126, -8, -1, 126}, {0, 254, 4, 11, 254},
            {1, 0, -5632, -5377, 0}, {1, 255, 832, 863, 255}, {1, 213, 0, 15, 213}, {1, 85, -16, -1, 85},
            {1, 170, 31744, 32767, 170}, {1, 42, -32768, -31745, 42}
        };
        VoiceDesk desk = new VoiceDesk();
        for (int[] row : rows) {
            for (int what = 0; what <= 2; what++) {
                String call = "16: law(" + row[0] + ", " + row[1] + ", " + what + ")";
                Check.same(call, desk.law(row[0], row[1], what), row[2 + what]);
            }
        }
    }
}
