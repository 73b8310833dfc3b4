/** Promises 10 and 11: go, now; and what a day does. */
public final class DaysTest {
    public static void main(String[] args) {
        hearing();
        hushing();
        forgetting();
        drawingOn();
        theListGoesRound();
        bounds();
        now();
        Due.end();
    }

    private static void hearing() {
        LeftGloves x = Due.club("glove open 4;glove open 5;glove in 1 open 9;burnt open 9;said 0 0 7 5");
        Due.is("who would hear", x.now(6), 2);
        Due.is("go", x.go(1), 128);
        Due.is("needs more", x.of(0, 3), 0);
        Due.is("needs just that", x.of(1, 3), 128);
        Due.is("in another room", x.of(2, 3), 0);
        Due.is("burnt", x.of(3, 3), 0);
        LeftGloves y = Due.club("double in 0 open 0;burnt in 0;said 0 0 7 3");
        Due.is("a double in company needs 1", y.go(1), 128);
        LeftGloves z = Due.club("double in 0 open 0;burnt in 1;said 0 0 7 3");
        Due.is("a double alone needs 8", z.go(1), 0);
    }

    private static void hushing() {
        LeftGloves x = Due.club("glove open 4;lady open 0;said 0 0 7 6");
        Due.is("hushed by a lady", x.go(1), 0);
        LeftGloves y = Due.club("glove open 4;lady open 0;said 0 0 7 7");
        Due.is("hushed, but loud", y.go(1), 128);
        Due.is("the lady needs 9", y.of(1, 3), 0);
        LeftGloves z = Due.club("double open 9;double open 9;stiff;said 0 0 7 4");
        Due.is("hushed to 0: heard by the stiff one alone", z.now(6), 4);
        Due.is("it knows", z.go(1), 128);
        Due.is("a double doesn't", z.of(0, 3), 0);
        LeftGloves w = Due.club("kidskin open 8;said 0 0 3 0");
        Due.is("less than 0 is 0, and a need of 0 hears", w.go(1), 8);
        LeftGloves v = Due.club("glove open 9;stiff lies 99;said 0 0 3 1;said 1 0 4 1");
        Due.is("a stiff one of 99 days doesn't hush", v.go(1), 8);
        Due.is("behind one day more it does", v.go(1), 24);
        Due.is("not for the glove", v.of(0, 3), 8);
    }

    private static void forgetting() {
        LeftGloves x = Due.club("mitten open 9 knows 14;said 0 0 0 9;said 1 0 0 9");
        Due.is("the least that isn't new", x.go(1), 13);
        Due.is("heard again", x.go(1), 13);
        LeftGloves y = Due.club("mitten open 9 knows 255;said 0 0 1 9");
        Due.is("one only, though it knew the topic", y.go(1), 254);
        LeftGloves z = Due.club("mitten open 9 knows 255;said 0 0 0 9");
        Due.is("not the topic itself", z.go(1), 253);
        LeftGloves w = Due.club("stiff knows 65534;said 0 0 0 9");
        Due.is("a stiff one forgets nothing", w.go(1), 65535);
        LeftGloves v = Due.club("glove open 9 knows 31;said 0 0 15 9;said 1 0 14 9");
        Due.is("six it keeps", v.go(1), 32799);
        Due.is("a seventh is too many", v.go(1), 49182);
    }

    private static void drawingOn() {
        LeftGloves x = Due.club("kidskin in 5 knows 6;stiff lies 9998;burnt;hand 0 1");
        Due.is("four days", x.go(4), 7);
        Due.is("lies 4 days", x.of(0, 4), 4);
        Due.is("its hand doesn't yet", x.of(0, 5), 1);
        x.go(1);
        Due.is("drawn on: hand", x.of(0, 5), 7);
        Due.is("drawn on: knows", x.of(0, 3), 0);
        Due.is("drawn on: lies", x.of(0, 4), 0);
        Due.is("drawn on: room behind 5", x.of(0, 1), 0);
        Due.is("drawn on: how often", x.of(0, 6), 1);
        Due.is("lies 9999 at most", x.of(1, 4), 9999);
        Due.is("a stiff one stays", x.of(1, 6), 0);
        Due.is("a burnt one stays", x.of(2, 4), 5);
        LeftGloves y = Due.club("glove lies 9999");
        y.change(0, 6, 9999);
        y.go(1);
        Due.is("lies longer than it stays: drawn on", y.of(0, 1), 1);
        Due.is("drawn 9999 at most", y.of(0, 6), 9999);
        LeftGloves z = Due.club("glove open 9 lies 6;double in 1;said 0 0 2 9");
        z.go(1);
        Due.is("heard on its last day, into the hand", z.of(0, 5), 4);
        Due.is("nothing left in it", z.of(0, 3), 0);
    }

    private static void theListGoesRound() {
        LeftGloves x = new LeftGloves();
        for (int i = 0; i < 6; i++) {
            x.say(i, 10 * i + 9);
        }
        x.glove(5, 0);
        for (int day = 1; day <= 6; day++) {
            Due.is("day " + day, x.go(1), (1 << day) - 1);
            Due.is("day told", x.now(0), day);
        }
        x.change(0, 3, 0);
        Due.is("day 6 says the first again", x.go(1), 1);
    }

    private static void bounds() {
        LeftGloves x = new LeftGloves();
        Due.is("go 0", x.go(0), Due.BEYOND);
        Due.is("go -1", x.go(-1), Due.BEYOND);
        Due.is("go 61", x.go(61), Due.BEYOND);
        Due.is("no day went by", x.now(0), 0);
        Due.is("go 60", x.go(60), 0);
        Due.is("60 days", x.now(0), 60);
        Due.is("now -1", x.now(-1), Due.BEYOND);
        Due.is("now 7", x.now(7), Due.BEYOND);
        // More calls than an object is promised for: no state of 512 calls comes near the last day.
        for (int i = 0; i < 1665; i++) {
            x.go(60);
        }
        Due.is("day 99960", x.now(0), 99960);
        Due.is("go beyond the last day", x.go(40), Due.STATE);
        Due.is("talk beyond the last day", x.talk(20) == 0 && x.talk(20) == Due.STATE ? 1 : 0, 1);
        x.image();
        Due.is("talk to the last day", x.talk(19), 0);
        Due.is("day 99999", x.now(0), 99999);
        x.undo();
        Due.is("go to the last day", x.go(19), 0);
        Due.is("day 99999", x.now(0), 99999);
        Due.is("go on from the last day", x.go(1), Due.STATE);
        Due.is("states counted", x.status(4), 3);
    }

    private static void now() {
        LeftGloves x = new LeftGloves();
        int[] empty = {0, 0, 0, 65535, 0, -1, 0};
        for (int what = 0; what < 7; what++) {
            Due.is("now, no gloves " + what, x.now(what), empty[what]);
        }
        Due.text(x, "glove knows 3 open 1");
        Due.is("a fault changes nothing", x.count(1), 0);
        LeftGloves y = Due.club("glove knows 3;lady knows 6;stiff in 1;hand 0 8;hand 1 24;hand 2 48");
        y.change(0, 6, 5);
        y.change(2, 6, 7);
        Due.is("now 1", y.now(1), 7);
        Due.is("now 2", y.now(2), 56);
        Due.is("now 3", y.now(3), 65535 - 63);
        Due.is("now 4", y.now(4), 12);
        Due.is("now 5: the first of two", y.now(5), 1);
        Due.is("now 6: hushed to 4, the glove needs 5, the lady 4", y.now(6), 2);
        y.say(0, 6);
        Due.is("now 6: the glove too, though it knows the topic", y.now(6), 3);
        y.say(0, 4);
        Due.is("now 6: too low for both", y.now(6), 0);
        Due.is("now 6 changes nothing", y.now(1), 7);
        LeftGloves z = Due.club("glove;glove");
        Due.is("now 5: all know nothing", z.now(5), 0);
    }
}
