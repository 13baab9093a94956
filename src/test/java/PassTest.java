/** Promise 15 (pass). */
public final class PassTest {
    public static void main(String[] args) {
        for (int from = 0; from <= 8; from++) {
            for (int to = 0; to <= 8; to++) {
                if (from >= 6 == to >= 6) {
                    passes(from, to);
                } else {
                    unlike(from, to);
                }
            }
            withItself(from);
            wrongCalls(from);
        }
        Check.end();
    }

    private static int bits(int kind) {
        return kind >= 2 && kind <= 5 ? kind : 8;
    }

    private static int byHand(VoiceDesk desk, int l, int m, int code) {
        int heard = desk.hear(l, code);
        return desk.kind(l) >= 6 ? desk.pair(m, heard, desk.second(l)) : desk.say(m, heard);
    }

    private static void checkAlike(String what, VoiceDesk desk, VoiceDesk other, int l) {
        for (int side = 0; side < 2; side++) {
            for (int n = 0; n < 84; n++) {
                Check.same(what + " inner " + n, desk.inner(l, side, n), other.inner(l, side, n));
            }
        }
        Check.same(what + " second", desk.second(l), other.second(l));
    }

    private static VoiceDesk opened(int from, int to) {
        VoiceDesk desk = new VoiceDesk();
        desk.open(0, from);
        desk.open(3, to);
        return desk;
    }

    private static void passes(int from, int to) {
        VoiceDesk desk = opened(from, to);
        VoiceDesk other = opened(from, to);
        String what = "pass from " + from + " to " + to;
        int[] codes = Signals.stubborn(from + 9 * to, 60, bits(from));
        for (int code : codes) {
            Check.same(what, desk.pass(0, 3, code), byHand(other, 0, 3, code));
        }
        checkAlike(what, desk, other, 3);
        Check.same(what + " second", desk.second(0), other.second(0));
        // one side alone of line 0: all numbers of both lines are too many calls for one object
        for (int n = 0; n < 53; n++) {
            Check.same(what + " inner " + n, desk.inner(0, 1, n), other.inner(0, 1, n));
        }
    }

    private static void withItself(int kind) {
        VoiceDesk desk = opened(kind, 0);
        VoiceDesk other = opened(kind, 0);
        for (int code : Signals.codes(kind, 80, bits(kind))) {
            Check.same("pass from and to a line of " + kind, desk.pass(0, 0, code), byHand(other, 0, 0, code));
        }
        checkAlike("with itself, " + kind, desk, other, 0);
    }

    private static void unlike(int from, int to) {
        VoiceDesk desk = opened(from, to);
        VoiceDesk fresh = opened(from, to);
        for (int code = 0; code < 1 << bits(from); code += 3) {
            Check.none("pass from " + from + " to " + to, desk.pass(0, 3, code));
        }
        checkAlike("refused", desk, fresh, 0);
        checkAlike("refused", desk, fresh, 3);
    }

    private static void wrongCalls(int kind) {
        VoiceDesk desk = opened(kind, kind);
        VoiceDesk fresh = opened(kind, kind);
        for (int code : new int[] {-1, 1 << bits(kind), 256, Integer.MIN_VALUE, Integer.MAX_VALUE}) {
            Check.none("pass of code " + code, desk.pass(0, 3, code));
        }
        for (int l : new int[] {-1, 1, 2, 4, Integer.MIN_VALUE, Integer.MAX_VALUE}) {
            Check.none("pass to line " + l, desk.pass(0, l, 1));
            Check.none("pass from line " + l, desk.pass(l, 0, 1));
            Check.none("pass from and to line " + l, desk.pass(l, l, 1));
        }
        checkAlike("refused", desk, fresh, 0);
        Check.same("pass then", desk.pass(0, 3, 1), byHand(fresh, 0, 3, 1));
    }
}
