/** Boundary cases of promises 12 to 15. */
public final class EdgesAheadTest {
    private static final int LEAST = Integer.MIN_VALUE;
    private static final int MOST = Integer.MAX_VALUE;

    public static void main(String[] args) {
        aheadBounds();
        aheadBeyond();
        hearsBounds();
        hearsBeyond();
        wiseBounds();
        wiseBeyond();
        outBounds();
        outBeyond();
        twoHundredDays();
        fromALaterDay();
        nothingChanges();
        Due.end();
    }

    private static LeftGloves silent() {
        LeftGloves x = new LeftGloves();
        for (int i = 0; i < 6; i++) {
            x.say(i, 5000);
        }
        return x;
    }

    private static void aheadBounds() {
        LeftGloves x = silent();
        x.glove(1, 4);
        x.change(0, 3, 9);
        x.change(0, 5, 6);
        x.change(0, 4, 3);
        x.change(0, 6, 9990);
        int[] whats = {1, 3, 4, 5, 6};
        int[] now = {4, 9, 3, 6, 9990};
        int[] later = {5, 0, 0, 15, 9991};
        int[] latest = {0, 0, 3, 15, 9999};
        for (int i = 0; i < 5; i++) {
            Due.is("Promise 12: behind 0 DAYS it is as now, what " + whats[i], x.ahead(0, whats[i], 0), now[i]);
            Due.is("Promise 12: behind 2 DAYS, what " + whats[i], x.ahead(0, whats[i], 2), later[i]);
            Due.is("Promise 12: behind 100 DAYS, what " + whats[i], x.ahead(0, whats[i], 100), latest[i]);
        }
        LeftGloves y = Refused.full();
        Due.is("Promise 12: the last GLOVE", y.ahead(7, 1, 0), y.of(7, 1));
        LeftGloves z = silent();
        z.glove(5, 0);
        z.change(0, 4, 9950);
        Due.is("Promise 12: LIES 9999 at most", z.ahead(0, 4, 100), 9999);
    }

    private static void aheadBeyond() {
        int[] days = {-1, 101, 102, LEAST, MOST};
        for (int n : days) {
            Refused.everywhere("Promise 12, BEYOND: n " + n, Due.BEYOND, c -> c.ahead(0, 1, n));
        }
        int[] whats = {-1, 0, 2, 7, 8, 9, 10, 11, LEAST, MOST};
        for (int what : whats) {
            Refused.everywhere("Promise 12, BEYOND: what " + what, Due.BEYOND, c -> c.ahead(0, what, 1));
        }
        noGlove("Promise 12", g -> c -> c.ahead(g, 1, 1));
    }

    private interface OfGlove {
        java.util.function.ToLongFunction<LeftGloves> of(int glove);
    }

    private static void noGlove(String promise, OfGlove call) {
        int[] gloves = {-1, 8, LEAST, MOST};
        for (int glove : gloves) {
            Refused.everywhere(promise + ", BEYOND: GLOVE " + glove, Due.BEYOND, call.of(glove));
        }
        Refused.is(promise + ", BEYOND: there are no GLOVES", LeftGloves::new, Due.BEYOND, call.of(0));
        Refused.is(promise + ", BEYOND: four GLOVES, number 4", Refused::some, Due.BEYOND, call.of(4));
    }

    private static void hearsBounds() {
        LeftGloves x = silent();
        x.glove(0, 0);
        x.change(0, 2, 9);
        x.change(0, 3, 32769);
        Due.is("Promise 13: KNOWN now, TOPIC 0: 0 DAYS", x.hears(0, 0), 0);
        Due.is("Promise 13: KNOWN now, TOPIC 15: 0 DAYS", x.hears(0, 15), 0);
        x.say(0, 79);
        Due.is("Promise 13: said on this DAY: 1", x.hears(0, 7), 1);
        x.say(0, 5000);
        x.say(5, 79);
        Due.is("Promise 13: said on the last DAY of THE LIST: 6", x.hears(0, 7), 6);
        x.say(5, 1079);
        Due.is("Promise 13: said IN the next ROOM: drawn on behind 7, heard on DAY 11", x.hears(0, 7), 12);
        x.change(0, 5, 64);
        Due.is("Promise 13: what its HAND KNOWS doesn't count", x.hears(0, 6), Due.NONE);
        Refused.is("Promise 13, NONE: a BURNT one never hears", Refused::some, Due.NONE, c -> c.hears(3, 15));
        Refused.is("Promise 13, NONE: TOPIC 15 is never said there", Refused::some, Due.NONE, c -> c.hears(2, 14));
    }

    private static void hearsBeyond() {
        int[] topics = {-1, 16, 17, LEAST, MOST};
        for (int topic : topics) {
            Refused.everywhere("Promise 13, BEYOND: TOPIC " + topic, Due.BEYOND, c -> c.hears(0, topic));
        }
        noGlove("Promise 13", g -> c -> c.hears(g, 0));
    }

    private static void wiseBounds() {
        LeftGloves x = silent();
        x.glove(0, 0);
        Due.is("Promise 14: v 0: 0 DAYS", x.wise(0, 0), 0);
        Due.is("Promise 14, NONE: v 1", x.wise(0, 1), Due.NONE);
        x.change(0, 3, 32768);
        Due.is("Promise 14: v 1, drawn on behind 7", x.wise(0, 1), 7);
        Due.is("Promise 14, NONE: v 2", x.wise(0, 2), Due.NONE);
        x.change(0, 5, 32767);
        Due.is("Promise 14: v 15 or more: 0 DAYS", x.wise(0, 15), 0);
        Due.is("Promise 14: v 14, it KNOWS more: 0 DAYS", x.wise(0, 14), 0);
        Due.is("Promise 14: v 16, drawn on behind 7", x.wise(0, 16), 7);
        x.change(0, 4, 6);
        Due.is("Promise 14: v 16, drawn on behind 1", x.wise(0, 16), 1);
        x.change(0, 5, 65535);
        Due.is("Promise 14: v 16: 0 DAYS", x.wise(0, 16), 0);
        Refused.is("Promise 14, NONE: a BURNT one is never drawn on", Refused::some, Due.NONE, c -> c.wise(3, 16));
    }

    private static void wiseBeyond() {
        int[] values = {-1, 17, 18, LEAST, MOST};
        for (int v : values) {
            Refused.everywhere("Promise 14, BEYOND: v " + v, Due.BEYOND, c -> c.wise(0, v));
        }
        noGlove("Promise 14", g -> c -> c.wise(g, 0));
    }

    private static void outBounds() {
        LeftGloves x = silent();
        Due.is("Promise 15: no TOPICS, no GLOVES: 0 DAYS", x.out(0), 0);
        Due.is("Promise 15, NONE: TOPIC 15, no GLOVES", x.out(32768), Due.NONE);
        x.glove(0, 0);
        x.glove(5, 1);
        x.change(0, 3, 0b0000000000001111);
        x.change(0, 5, 0b0000000011110000);
        x.change(1, 3, 0b0000111100000000);
        x.change(1, 5, 0b1111000000000000);
        Due.is("Promise 15: all TOPICS, by GLOVES and HANDS together: 0 DAYS", x.out(65535), 0);
        Due.is("Promise 15: TOPIC 15 alone: 0 DAYS", x.out(32768), 0);
        x.change(1, 5, 0b0111000000000000);
        Due.is("Promise 15, NONE: all but TOPIC 15", x.out(65535), Due.NONE);
        Due.is("Promise 15: all but TOPIC 15: 0 DAYS", x.out(32767), 0);
        x.say(0, 1150);
        Due.is("Promise 15: it is said on this DAY: 1", x.out(65535), 1);
        x.say(0, 5000);
        x.say(5, 1150);
        Due.is("Promise 15: it is said on DAY 5: 6", x.out(65535), 6);
        Due.is("Promise 15: all are KNOWN together on one DAY", forgotten(), Due.NONE);
        Refused.is("Promise 15, NONE: TOPICS that nobody KNOWS", Refused::some, Due.NONE, c -> c.out(65535));
    }

    /** A MITTEN that hears a TOPIC and forgets one by it: never are all four KNOWN at once, till it is drawn on. */
    private static int forgotten() {
        LeftGloves x = silent();
        x.glove(2, 0);
        x.change(0, 2, 9);
        x.change(0, 3, 14);
        x.say(0, 9);
        return x.out(15);
    }

    private static void outBeyond() {
        int[] sets = {-1, 65536, 65537, 1 << 17, LEAST, MOST};
        for (int topics : sets) {
            Refused.everywhere("Promise 15, BEYOND: set " + topics, Due.BEYOND, c -> c.out(topics));
        }
    }

    /**
     * A DOUBLE with closed fingers hears 3 LOUD only where another one lies. It goes on each 5 DAYS, a MITTEN each
     * 14, so they meet IN one ROOM on the DAY of one place of THE LIST once in a long while.
     */
    private static LeftGloves meeting(int lies, int room, int place, int saying) {
        LeftGloves x = silent();
        x.glove(6, 0);
        x.glove(2, room);
        x.change(0, 2, 0);
        x.change(1, 2, 0);
        x.change(0, 4, lies);
        for (int i = 0; i < 6; i++) {
            x.say(i, i == place ? saying : 0);
        }
        return x;
    }

    private static void twoHundredDays() {
        LeftGloves x = meeting(1, 2, 1, 4155);
        Due.is("Promise 13: behind 200 DAYS, the last that counts", x.hears(0, 15), 200);
        Due.is("Promise 15: behind 200 DAYS, the last that counts", x.out(32768), 200);
        Due.is("Promise 14, NONE: its HAND KNOWS it later", x.wise(0, 1), Due.NONE);
        LeftGloves y = meeting(1, 2, 2, 4155);
        Due.is("Promise 13, NONE: behind 201 DAYS", y.hears(0, 15), Due.NONE);
        Due.is("Promise 15, NONE: behind 201 DAYS", y.out(32768), Due.NONE);
        Due.is("Promise 14: behind 200 DAYS, the last that counts", meeting(0, 1, 0, 3155).wise(0, 1), 200);
        Due.is("Promise 14, NONE: behind 201 DAYS", meeting(4, 2, 0, 4155).wise(0, 1), Due.NONE);
        x.go(1);
        Due.is("Promise 13: a DAY later it is 199", x.hears(0, 15), 199);
        y.go(1);
        Due.is("Promise 13: a DAY later 201 is 200", y.hears(0, 15), 200);
        Due.is("Promise 15: a DAY later 201 is 200", y.out(32768), 200);
        LeftGloves z = meeting(4, 2, 0, 4155);
        z.go(1);
        Due.is("Promise 14: a DAY later 201 is 200", z.wise(0, 1), 200);
    }

    private static void fromALaterDay() {
        LeftGloves x = silent();
        x.glove(5, 0);
        x.say(1, 150);
        x.go(2);
        Due.is("Promise 13: from DAY 2 on, place 1 comes on DAY 7", x.hears(0, 2), Due.NONE);
        x.change(0, 3, 0);
        Due.is("Promise 13: behind 6 DAYS", x.hears(0, 15), 6);
        Due.is("Promise 15: behind 6 DAYS", x.out(32768), 6);
        Due.is("Promise 12: not behind 5", x.ahead(0, 3, 5), 0);
        Due.is("Promise 12: behind 6", x.ahead(0, 3, 6), 32768);
    }

    private static void nothingChanges() {
        LeftGloves x = Refused.some();
        LeftGloves y = Refused.some();
        x.ahead(0, 3, 100);
        x.hears(0, 0);
        x.wise(0, 0);
        x.out(0);
        Due.is("Promises 12 to 15: no findings here", x.status(-1), y.status(-1));
        for (int glove = 0; glove < 4; glove++) {
            for (int what = 0; what < 11; what++) {
                Due.is("Promises 12 to 15: nothing changes, of " + glove + " " + what, x.of(glove, what), y.of(glove, what));
            }
        }
        for (int what = 0; what < 8; what++) {
            Due.is("Promises 12 to 15: nothing changes, count " + what, x.count(what), y.count(what));
        }
    }
}
