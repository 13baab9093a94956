/** Promises 1 (a new object), 2 (open) and 3 (kind). */
public final class LinesTest {
    private static final int[] WRONG_LINES = {-1, 4, 5, 100, Integer.MIN_VALUE, Integer.MAX_VALUE};
    private static final int[] WRONG_KINDS = {-1, 9, 10, 64, Integer.MIN_VALUE, Integer.MAX_VALUE, VoiceDesk.NONE};

    public static void main(String[] args) {
        newObject();
        objectsAreApart();
        everyLineAndKind();
        wrongOpens();
        openBeginsAnew();
        openLeavesOtherLines();
        Check.end();
    }

    private static void newObject() {
        VoiceDesk desk = new VoiceDesk();
        for (int l = -1; l <= 4; l++) {
            Check.none("kind", desk.kind(l));
            Check.none("say", desk.say(l, 0));
            Check.none("pair", desk.pair(l, 0, 0));
            Check.none("hear", desk.hear(l, 0));
            Check.none("second", desk.second(l));
            Check.none("pack", desk.pack(l, true));
            Check.none("unpack", desk.unpack(l, false, 0));
            Check.none("pass", desk.pass(l, l, 0));
            for (int what = 0; what < 4; what++) {
                Check.none("inner", desk.inner(l, 0, what));
                Check.none("inner", desk.inner(l, 1, what));
            }
        }
        Check.none("out of a new object", desk.out(0));
        Check.none("end(1) of a new object", desk.end(1));
        Check.same("end(0) of a new object", desk.end(0), 0);
        Check.same("take of a new object", desk.take(), 0);
        Check.same("feed of a new object", desk.feed(1, 2, 3, 4, 5), 20);
    }

    private static void objectsAreApart() {
        VoiceDesk one = new VoiceDesk();
        VoiceDesk other = new VoiceDesk();
        one.open(0, 4);
        one.feed(1, 2, 3, 4, 5);
        Check.none("kind of the other object", other.kind(0));
        Check.same("tape of the other object", other.take(), 0);
        other.open(0, 4);
        one.say(0, 5000);
        Check.same("inner of the other object", other.inner(0, 0, 1), 544);
    }

    private static void everyLineAndKind() {
        VoiceDesk desk = new VoiceDesk();
        for (int l = 0; l < 4; l++) {
            for (int kind = 0; kind <= 8; kind++) {
                Check.same("open(" + l + ", " + kind + ")", desk.open(l, kind), true);
                Check.same("kind(" + l + ")", desk.kind(l), kind);
                Check.same("next line's kind", desk.kind(l + 1), VoiceDesk.NONE);
            }
        }
        for (int l = 0; l < 4; l++) {
            Check.same("kind in the end", desk.kind(l), 8);
        }
        for (int l : WRONG_LINES) {
            Check.none("kind(" + l + ")", desk.kind(l));
        }
    }

    private static void wrongOpens() {
        VoiceDesk desk = new VoiceDesk();
        desk.open(1, 3);
        desk.say(1, 900);
        int y = desk.inner(1, 0, 1);
        for (int kind : WRONG_KINDS) {
            for (int l = 0; l < 4; l++) {
                Check.same("open(" + l + ", " + kind + ")", desk.open(l, kind), false);
            }
        }
        for (int l : WRONG_LINES) {
            Check.same("open(" + l + ", 3)", desk.open(l, 3), false);
        }
        Check.none("kind of a closed line", desk.kind(0));
        Check.same("kind of an open line", desk.kind(1), 3);
        Check.same("inner of an open line", desk.inner(1, 0, 1), y);
        Check.holds("the line was no more new", y != 544);
    }

    private static void openBeginsAnew() {
        for (int kind = 2; kind <= 8; kind++) {
            VoiceDesk desk = new VoiceDesk();
            desk.open(2, kind);
            boolean wide = kind >= 6;
            for (int i = 0; i < 20; i++) {
                if (wide) {
                    desk.pair(2, 9000 - 700 * i, 500 * i);
                } else {
                    desk.say(2, 9000 - 700 * i);
                }
                desk.hear(2, i % 4);
            }
            Check.same("open again", desk.open(2, kind), true);
            VoiceDesk fresh = new VoiceDesk();
            fresh.open(2, kind);
            for (int side = 0; side < 2; side++) {
                for (int what = 0; what < (wide ? 84 : 24); what++) {
                    String call = "kind " + kind + " inner(2, " + side + ", " + what + ")";
                    Check.same(call, desk.inner(2, side, what), fresh.inner(2, side, what));
                }
            }
            Check.same("second", desk.second(2), wide ? 0 : VoiceDesk.NONE);
            int code = wide ? desk.pair(2, 100, 300) : desk.say(2, 400);
            Check.same("first code", code, wide ? fresh.pair(2, 100, 300) : fresh.say(2, 400));
        }
    }

    private static void openLeavesOtherLines() {
        VoiceDesk desk = new VoiceDesk();
        desk.open(0, 5);
        desk.open(1, 5);
        desk.say(0, 7000);
        int y = desk.inner(0, 0, 1);
        desk.open(1, 6);
        Check.same("kind of line 0", desk.kind(0), 5);
        Check.same("inner of line 0", desk.inner(0, 0, 1), y);
        Check.same("kind of line 1", desk.kind(1), 6);
    }
}
