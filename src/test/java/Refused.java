import java.util.function.Supplier;
import java.util.function.ToLongFunction;

/**
 * Terms: one that answers a finding changes nothing but status(). The refused call is made on one of two like
 * clubs; then every call that tells something is made on both, and tells the same. An object gets less than 512 calls.
 */
final class Refused {
    private static final String TEXT = "mitten in 3 open 0;said 4 4 4 4 ";

    private Refused() {
    }

    /** A call that is refused in a new club, in one with some gloves, and in one that is as full as can be. */
    static void everywhere(String told, int finding, ToLongFunction<LeftGloves> call) {
        is(told + " (new)", LeftGloves::new, finding, call);
        is(told + " (some)", Refused::some, finding, call);
        is(told + " (full)", Refused::full, finding, call);
    }

    static void is(String told, Supplier<LeftGloves> club, int finding, ToLongFunction<LeftGloves> call) {
        LeftGloves x = club.get();
        LeftGloves y = club.get();
        Due.is(told, call.applyAsLong(x), finding);
        counted(told, x, y, finding);
        alike(told, x, y);
        x.undo();
        y.undo();
        club(told + ", behind undo", x, y);
        Due.is(told + ": what is kept", x.tear(), y.tear());
        counted(told + ", at the end", x, y, finding);
    }

    private static void counted(String told, LeftGloves x, LeftGloves y, int finding) {
        for (int which = -1; which < 7; which++) {
            int more = which == -1 || which == Due.BEYOND - finding ? 1 : 0;
            Due.is(told + ": status " + which, x.status(which), y.status(which) + more);
        }
    }

    private static void alike(String told, LeftGloves x, LeftGloves y) {
        club(told, x, y);
        for (int s = 0; s < 4; s++) {
            for (int part = 0; part < 40; part += 8) {
                Due.is(told + ": copy within " + s, x.copy(s, part, s, 0, 8), y.copy(s, part, s, 0, 8));
                Due.is(told + ": judge " + s, x.judge(s), y.judge(s));
            }
            for (int t = 0; t < 4; t++) {
                Due.is(told + ": bits of " + s + " and " + t, x.copy(s, 0, t, 0, 0), y.copy(s, 0, t, 0, 0));
            }
            for (int size = 3; size < 6; size++) {
                Due.is(told + ": size of " + s, x.copy(s, size, s, 0, 0), y.copy(s, size, s, 0, 0));
            }
        }
        Due.is(told + ": text", x.text(), y.text());
        Due.is(told + ": gloves behind text", x.count(1), y.count(1));
        Due.is(told + ": said behind text", x.said(4), y.said(4));
    }

    private static void club(String told, LeftGloves x, LeftGloves y) {
        for (int what = 0; what < 8; what++) {
            Due.is(told + ": count " + what, x.count(what), y.count(what));
        }
        for (int i = 0; i < 6; i++) {
            Due.is(told + ": said " + i, x.said(i), y.said(i));
        }
        for (int glove = 0; glove < y.count(1); glove++) {
            for (int what = 0; what < 7; what++) {
                Due.is(told + ": of " + glove + " " + what, x.of(glove, what), y.of(glove, what));
            }
        }
        for (int spot = 0; spot < 10; spot++) {
            Due.is(told + ": spot " + spot, x.as(spot, 0), y.as(spot, 0));
        }
    }

    /** Four gloves, eight days gone, three sheets that tell their hands, a text on the tape, an image of day 0. */
    static LeftGloves some() {
        LeftGloves x = new LeftGloves();
        int[] kinds = {0, 3, 5, 4};
        for (int glove = 0; glove < 4; glove++) {
            x.glove(kinds[glove], glove);
            x.change(glove, 2, 9 - glove);
            x.change(glove, 5, 1 << glove);
        }
        x.image();
        x.go(8);
        x.say(4, 5159);
        x.hold(0, 1);
        x.hold(9, 3);
        x.seed(-77);
        for (int s = 0; s < 3; s++) {
            x.sheet(s, 8 << s, 3 + s);
            hands(x, s, Math.min(4, 3 + s));
        }
        feed(x, TEXT);
        return x;
    }

    /** Eight gloves that know all, held by all spots, all sheets of 40 numbers, 120 bytes on the tape. */
    static LeftGloves full() {
        LeftGloves x = new LeftGloves();
        for (int glove = 0; glove < 8; glove++) {
            x.glove(glove % 7, glove % 6);
            int[] most = {9, 65535, 0, 127, 9999};
            for (int what = 2; what < 7; what++) {
                x.change(glove, what, most[what - 2]);
            }
        }
        for (int spot = 0; spot < 10; spot++) {
            x.hold(spot, spot % 8);
        }
        int[] bits = {8, 16, 32, 32};
        for (int s = 0; s < 4; s++) {
            x.sheet(s, bits[s], 40);
            hands(x, s, 8);
            x.copy(s, 0, s, 8, 8);
            x.copy(s, 0, s, 16, 16);
            x.copy(s, 0, s, 32, 8);
        }
        x.image();
        x.go(1);
        feed(x, " ".repeat(88) + TEXT);
        return x;
    }

    private static void hands(LeftGloves x, int s, int n) {
        for (int i = 0; i < n; i++) {
            x.write(s, i, x.of(i, 5));
        }
    }

    /** Four bytes a call: an object has 512 calls, no more. */
    static void feed(LeftGloves x, String text) {
        for (int i = 0; i < text.length(); i += 4) {
            String part = text.substring(i, Math.min(text.length(), i + 4));
            int bytes = 0;
            for (int k = 0; k < part.length(); k++) {
                bytes = bytes << 8 | part.charAt(k);
            }
            x.feed(bytes, part.length());
        }
    }
}
