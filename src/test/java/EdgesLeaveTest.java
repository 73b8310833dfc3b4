import java.util.function.ToLongFunction;

/** Boundary cases of promises 16 to 21. */
public final class EdgesLeaveTest {
    private static final int LEAST = Integer.MIN_VALUE;
    private static final int MOST = Integer.MAX_VALUE;

    public static void main(String[] args) {
        leaveBounds();
        leaveInNoOther();
        leaveBeyond();
        openForBounds();
        openForBeyond();
        kindForBounds();
        kindForBeyond();
        lowerBounds();
        lowerBeyond();
        coverBounds();
        coverBeyond();
        awayBounds();
        awayDays();
        awayFewest();
        awayInNothing();
        awayBeyond();
        nothingChanges();
        Due.end();
    }

    /** All of THE LIST says TOPIC 0 IN ROOM 5 at LOUD 0. */
    private static LeftGloves silent() {
        LeftGloves x = new LeftGloves();
        for (int i = 0; i < 6; i++) {
            x.say(i, 5000);
        }
        return x;
    }

    private static LeftGloves silentOne(int kind, int room, int open) {
        LeftGloves x = silent();
        x.glove(kind, room);
        x.change(0, 2, open);
        return x;
    }

    private interface OfGlove {
        ToLongFunction<LeftGloves> of(int glove);
    }

    private static void noGlove(String promise, OfGlove call) {
        int[] gloves = {-1, 8, LEAST, MOST};
        for (int glove : gloves) {
            Refused.everywhere(promise + ", BEYOND: GLOVE " + glove, Due.BEYOND, call.of(glove));
        }
        Refused.is(promise + ", BEYOND: there are no GLOVES", LeftGloves::new, Due.BEYOND, call.of(0));
        Refused.is(promise + ", BEYOND: four GLOVES, number 4", Refused::some, Due.BEYOND, call.of(4));
    }

    private static void leaveBounds() {
        LeftGloves x = silentOne(0, 3, 9);
        Due.is("Promise 16: all ROOMS alike: the least number, n 0", x.leave(0, 0), 0);
        Due.is("Promise 16: all ROOMS alike: the least number, n 60", x.leave(0, 60), 0);
        x.say(0, 5079);
        Due.is("Promise 16: ROOM 5, the last", x.leave(0, 7), 5);
        Due.is("Promise 16: nothing is drawn on within 6 DAYS: the least number", x.leave(0, 6), 0);
        Due.is("Promise 16: of ROOMS 4 and 5 the least number, DAY 12 says it again", x.leave(0, 14), 4);
        x.say(1, 89);
        Due.is("Promise 16: of ROOMS 0 and 5 the least number", x.leave(0, 7), 0);
        x.change(0, 5, 256);
        Due.is("Promise 16: its HAND KNOWS TOPIC 8 already", x.leave(0, 7), 5);
        x.say(2, 99);
        x.say(3, 109);
        Due.is("Promise 16: most TOPICS", x.leave(0, 7), 0);
        LeftGloves z = silentOne(2, 0, 9);
        z.say(5, 3159);
        // A MITTEN lies 14 DAYS: 60 DAYS are four times that, and ROOM 3 is the fourth from ROOM 0 on.
        Due.is("Promise 16: drawn on in ROOM 3 behind 56 DAYS", z.leave(0, 56), 0);
        Due.is("Promise 16: ROOM 3 is left behind 56 DAYS only", z.leave(0, 55), 1);
    }

    /** IN each ROOM a MITTEN hears what it KNOWS, and forgets by it: all ROOMS are as bad, and there is no seventh. */
    private static void leaveInNoOther() {
        LeftGloves x = new LeftGloves();
        for (int i = 0; i < 6; i++) {
            x.say(i, 1000 * i + 49);
        }
        x.glove(2, 3);
        x.change(0, 2, 9);
        x.change(0, 3, 31);
        Due.is("Promise 16: ROOMS 0 to 5 alone, of several the least number", x.leave(0, 14), 0);
        for (int room = 0; room < 6; room++) {
            x.change(0, 1, room);
            Due.is("Promise 16: two TOPICS are forgotten IN ROOM " + room, x.ahead(0, 5, 14), 28);
        }
    }

    private static void leaveBeyond() {
        int[] days = {-1, 61, 62, LEAST, MOST};
        for (int n : days) {
            Refused.everywhere("Promise 16, BEYOND: n " + n, Due.BEYOND, c -> c.leave(0, n));
        }
        noGlove("Promise 16", g -> c -> c.leave(g, 1));
    }

    private static void openForBounds() {
        LeftGloves x = silentOne(0, 5, 9);
        Due.is("Promise 17: v 0, n 0: OPEN 0", x.openFor(0, 0, 0), 0);
        Due.is("Promise 17: v 0, n 60: OPEN 0", x.openFor(0, 0, 60), 0);
        Due.is("Promise 17, NONE: v 1 at LOUD 0", x.openFor(0, 1, 60), Due.NONE);
        for (int loud = 1; loud < 10; loud++) {
            x.say(0, 5150 + loud);
            Due.is("Promise 17: the least OPEN, LOUD " + loud, x.openFor(0, 1, 7), 10 - loud);
            Due.is("Promise 17, NONE: a DAY too few, LOUD " + loud, x.openFor(0, 1, 6), Due.NONE);
        }
        x.change(0, 5, 65535);
        Due.is("Promise 17: v 16, its HAND KNOWS all: OPEN 0", x.openFor(0, 16, 0), 0);
        x.change(0, 5, 32767);
        Due.is("Promise 17: v 16, TOPIC 15 lacks: OPEN 1", x.openFor(0, 16, 7), 1);
        Due.is("Promise 17: v 15 or more: OPEN 0", x.openFor(0, 15, 7), 0);
        Due.is("Promise 17: v 14, it KNOWS more: OPEN 0", x.openFor(0, 14, 7), 0);
        x.say(0, 5150);
        Due.is("Promise 17, NONE: v 16 at LOUD 0", x.openFor(0, 16, 7), Due.NONE);
        LeftGloves y = silentOne(1, 4, 0);
        y.say(0, 4159);
        Due.is("Promise 17: a KIDSKIN hushed to 8 NEEDS 8 with OPEN 0", y.openFor(0, 1, 5), 0);
        Refused.is("Promise 17, NONE: a BURNT one hears nothing", Refused::some, Due.NONE, c -> c.openFor(3, 16, 60));
        LeftGloves z = silentOne(2, 1, 0);
        z.say(0, 1154);
        // Drawn on behind 14, 28, 42 and 56 DAYS; place 0 is said while it lies IN ROOM 1.
        Due.is("Promise 17: a MITTEN NEEDS 4 with OPEN 9", z.openFor(0, 1, 60), 9);
        z.say(0, 1153);
        Due.is("Promise 17, NONE: 1 less than that", z.openFor(0, 1, 60), Due.NONE);
    }

    private static void openForBeyond() {
        int[] values = {-1, 17, 18, LEAST, MOST};
        for (int v : values) {
            Refused.everywhere("Promise 17, BEYOND: v " + v, Due.BEYOND, c -> c.openFor(0, v, 1));
        }
        int[] days = {-1, 61, 62, LEAST, MOST};
        for (int n : days) {
            Refused.everywhere("Promise 17, BEYOND: n " + n, Due.BEYOND, c -> c.openFor(0, 0, n));
        }
        noGlove("Promise 17", g -> c -> c.openFor(g, 0, 1));
    }

    private static void kindForBounds() {
        LeftGloves x = silentOne(5, 0, 0);
        Due.is("Promise 18: all KINDS alike: the least number, n 0", x.kindFor(0, 0), 0);
        Due.is("Promise 18: all KINDS alike: the least number, n 60", x.kindFor(0, 60), 0);
        x.change(0, 3, 7);
        Due.is("Promise 18: n 4, none is drawn on: the least number", x.kindFor(0, 4), 0);
        Due.is("Promise 18: n 5, of KIDSKIN and DOUBLE the least number", x.kindFor(0, 5), 1);
        Due.is("Promise 18: n 6, still", x.kindFor(0, 6), 1);
        Due.is("Promise 18: n 7, GLOVE, too", x.kindFor(0, 7), 0);
        LeftGloves y = silentOne(0, 0, 0);
        y.glove(4, 0);
        y.say(0, 73);
        Due.is("Promise 18: a DOUBLE alone hears it, the greatest number", y.kindFor(0, 5), 6);
        Due.is("Promise 18: not in time", y.kindFor(0, 4), 0);
        LeftGloves z = silentOne(0, 0, 7);
        z.change(0, 4, 13);
        z.say(0, 73);
        // GLOVE 3, KIDSKIN 1 (hushed to 2), MITTEN 6, LADY 2 (hushed to 2): each is drawn on on this DAY.
        Due.is("Promise 18: of GLOVE, KIDSKIN and LADY the least number", z.kindFor(0, 1), 0);
        z.say(0, 72);
        Due.is("Promise 18: KIDSKIN alone, hushed to 1", z.kindFor(0, 1), 1);
        z.change(0, 3, 0b11111100000000);
        // A KIDSKIN KEEPS 8, a GLOVE 6: nothing that it hears makes it forget.
        Due.is("Promise 18: six KNOWN and one more", z.kindFor(0, 1), 1);
        Due.is("Promise 18: what it is now is no matter", sameForAllKinds(), 0);
    }

    private static int sameForAllKinds() {
        int differing = 0;
        for (int kind = 0; kind < 7; kind++) {
            LeftGloves x = silentOne(kind, 0, 7);
            x.say(0, 72);
            differing += x.kindFor(0, 5) == 1 ? 0 : 1;
            differing += x.of(0, 0) == kind ? 0 : 1;
        }
        return differing;
    }

    private static void kindForBeyond() {
        int[] days = {-1, 61, 62, LEAST, MOST};
        for (int n : days) {
            Refused.everywhere("Promise 18, BEYOND: n " + n, Due.BEYOND, c -> c.kindFor(0, n));
        }
        noGlove("Promise 18", g -> c -> c.kindFor(g, 1));
    }

    private static void lowerBounds() {
        LeftGloves x = silent();
        Due.is("Promise 19: there are no GLOVES: 9", x.lower(0), 9);
        Due.is("Promise 19: the last place", x.lower(5), 9);
        x.glove(0, 5);
        for (int open = 0; open < 10; open++) {
            x.change(0, 2, open);
            Due.is("Promise 19: the greatest LOUD that isn't heard, OPEN " + open, x.lower(0), Math.min(9, 9 - open));
        }
        x.glove(6, 5);
        x.change(1, 2, 0);
        Due.is("Promise 19: hushed by 2 a DOUBLE in company NEEDS 1", x.lower(0), 2);
        x.change(1, 0, 5);
        Refused.is("Promise 19, NONE: a STIFF one hears LOUD 0", () -> stiffInFive(), Due.NONE, c -> c.lower(5));
        Due.is("Promise 19, NONE: a STIFF one hears LOUD 0, place 0", x.lower(0), Due.NONE);
        x.change(1, 1, 4);
        Due.is("Promise 19: it hears only what is said IN its ROOM", x.lower(0), 0);
        x.change(1, 0, 3);
        x.change(1, 1, 5);
        x.change(1, 2, 9);
        Due.is("Promise 19, NONE: a LADY that NEEDS 0", x.lower(0), Due.NONE);
        x.change(1, 2, 8);
        Due.is("Promise 19: a LADY that NEEDS 1, hushed by 1; so is the GLOVE", x.lower(0), 1);
        x.change(1, 0, 4);
        x.change(0, 0, 4);
        Due.is("Promise 19: BURNT ones hear nothing: 9", x.lower(0), 9);
        for (int i = 0; i < 6; i++) {
            Due.is("Promise 19: nothing changes, place " + i, x.said(i), 5000);
        }
        LeftGloves y = silentOne(0, 3, 5);
        y.say(2, 3159);
        y.say(4, 3001);
        Due.is("Promise 19: LOUD 9 as it is", y.lower(2), 4);
        Due.is("Promise 19: LOUD 1 as it is", y.lower(4), 4);
        Due.is("Promise 19: the place's own ROOM", y.lower(3), 9);
        y.go(5);
        Due.is("Promise 19: all as it is now but for the DAY", y.lower(2), 4);
        y.change(0, 3, 32768);
        Due.is("Promise 19: heard, though it KNOWS the TOPIC", y.lower(2), 4);
    }

    private static LeftGloves stiffInFive() {
        LeftGloves x = Refused.some();
        x.change(2, 1, 5);
        x.say(5, 5009);
        return x;
    }

    private static void lowerBeyond() {
        int[] places = {-1, 6, 7, LEAST, MOST};
        for (int i : places) {
            Refused.everywhere("Promise 19, BEYOND: place " + i, Due.BEYOND, c -> c.lower(i));
        }
    }

    private static void coverBounds() {
        LeftGloves x = new LeftGloves();
        Due.is("Promise 20: no TOPICS, no GLOVES: nobody", x.cover(0), 0);
        Due.is("Promise 20, NONE: no GLOVES", x.cover(1), Due.NONE);
        Due.is("Promise 20, NONE: no GLOVES, TOPIC 15", x.cover(32768), Due.NONE);
        for (int glove = 0; glove < 8; glove++) {
            x.glove(4, 0);
            x.change(glove, 3, 1 << glove);
            x.change(glove, 5, 256 << glove);
        }
        Due.is("Promise 20: no TOPICS: nobody", x.cover(0), 0);
        Due.is("Promise 20: all eight", x.cover(65535), 255);
        Due.is("Promise 20: all eight, what GLOVES KNOW", x.cover(255), 255);
        Due.is("Promise 20: all eight, what HANDS KNOW", x.cover(65280), 255);
        for (int topic = 0; topic < 16; topic++) {
            Due.is("Promise 20: one, TOPIC " + topic, x.cover(1 << topic), 1 << topic % 8);
        }
        x.change(7, 3, 65535);
        Due.is("Promise 20: the last one alone KNOWS all", x.cover(65535), 128);
        Due.is("Promise 20: of several of one the least", x.cover(1), 1);
        x.change(7, 3, 0b01111111);
        x.change(6, 5, 0b1111111110000000);
        Due.is("Promise 20: two are fewer than eight", x.cover(65535), 192);
        x.change(1, 5, 0b1111111110000000);
        Due.is("Promise 20: of several of two the least", x.cover(65535), 130);
        x.change(0, 5, 0);
        x.change(0, 3, 0);
        x.change(7, 3, 0b01111110);
        Refused.is("Promise 20, NONE: nobody KNOWS TOPIC 6", Refused::some, Due.NONE, c -> c.cover(64));
        Due.is("Promise 20, NONE: TOPIC 0 lacks", x.cover(65535), Due.NONE);
        Due.is("Promise 20: all but TOPIC 0", x.cover(65534), 130);
    }

    private static void coverBeyond() {
        int[] sets = {-1, 65536, 65537, 1 << 17, LEAST, MOST};
        for (int topics : sets) {
            Refused.everywhere("Promise 20, BEYOND: set " + topics, Due.BEYOND, c -> c.cover(topics));
        }
    }

    private static void awayBounds() {
        LeftGloves x = silentOne(0, 0, 9);
        Due.is("Promise 21, NONE: TOPIC 0, nobody else is there", x.away(0, 0, 0), Due.NONE);
        x.change(0, 3, 32768);
        x.change(0, 5, 1);
        Due.is("Promise 21: it KNOWS TOPIC 15 behind 0 DAYS", x.away(0, 15, 0), 0);
        Due.is("Promise 21: its HAND KNOWS TOPIC 0 behind 0 DAYS", x.away(0, 0, 0), 0);
        Due.is("Promise 21: behind 20 DAYS its HAND does", x.away(0, 15, 20), 0);
        Due.is("Promise 21, NONE: TOPIC 14 behind 20 DAYS", x.away(0, 14, 20), Due.NONE);
        LeftGloves y = silentOne(0, 0, 9);
        y.say(0, 159);
        for (int glove = 1; glove < 8; glove++) {
            y.glove(6, 0);
        }
        Due.is("Promise 21, NONE: behind 0 DAYS nothing is heard", y.away(0, 15, 0), Due.NONE);
        Due.is("Promise 21: hushed by 14; by 8 it hears: three are away", y.away(0, 15, 1), 0b1110);
        y.say(0, 153);
        Due.is("Promise 21: hushed by 2 it hears: six are away", y.away(0, 15, 1), 0b1111110);
        y.say(0, 152);
        Due.is("Promise 21: all seven others are away", y.away(0, 15, 1), 0b11111110);
        Due.is("Promise 21: of the last one all seven others", sevenOthersOfTheLast(), 0b1111111);
        Due.is("Promise 21: GLOVES stay where they are", y.room(0, 0), 255);
        y.change(0, 2, 7);
        Due.is("Promise 21, NONE: not even alone", y.away(0, 15, 1), Due.NONE);
    }

    private static int sevenOthersOfTheLast() {
        LeftGloves x = silent();
        x.say(0, 152);
        for (int glove = 0; glove < 8; glove++) {
            x.glove(glove == 7 ? 0 : 6, 0);
            x.change(glove, 2, 9);
        }
        return x.away(7, 15, 1);
    }

    private static void awayDays() {
        LeftGloves x = silentOne(5, 0, 9);
        x.go(2);
        x.say(3, 150);
        Due.is("Promise 21, NONE: said on the 2nd DAY, n 1", x.away(0, 15, 1), Due.NONE);
        Due.is("Promise 21: said on the 2nd DAY, n 2", x.away(0, 15, 2), 0);
        LeftGloves y = silentOne(0, 3, 9);
        y.say(1, 5159);
        // Rooms 3, 4, 5 in turn, 7 DAYS each: it lies IN ROOM 5 from DAY 14 on, and DAY 19 says it: the 20th.
        Due.is("Promise 21, NONE: said on the 20th DAY, n 19", y.away(0, 15, 19), Due.NONE);
        Due.is("Promise 21: said on the 20th DAY, n 20", y.away(0, 15, 20), 0);
        y.glove(6, 5);
        y.change(1, 0, 4);
        Due.is("Promise 21: a BURNT one in its way doesn't HUSH", y.away(0, 15, 20), 0);
        LeftGloves z = silentOne(2, 0, 9);
        z.change(0, 3, 7);
        z.say(0, 159);
        z.say(1, 149);
        z.glove(6, 0);
        z.change(1, 4, 0);
        // Hushed to 7 both are heard, and TOPICS 0 and 1 forgotten; nobody's being away helps.
        Due.is("Promise 21, NONE: forgotten behind 2 DAYS, and not in its HAND", z.away(0, 0, 2), Due.NONE);
        Due.is("Promise 21: KNOWN behind 0", z.away(0, 0, 0), 0);
        Due.is("Promise 21, NONE: it KNOWS it behind n DAYS, not at some time", z.away(0, 1, 3), Due.NONE);
        Due.is("Promise 21: behind 1 DAY it does", z.away(0, 1, 1), 0);
    }

    private static void awayFewest() {
        LeftGloves x = silentOne(0, 0, 9);
        x.say(0, 153);
        x.glove(1, 0);
        x.glove(1, 0);
        x.glove(6, 0);
        Due.is("Promise 21: the DOUBLE alone is fewer than two KIDSKINS", x.away(0, 15, 1), 8);
        x.glove(6, 0);
        x.say(0, 155);
        Due.is("Promise 21: of two DOUBLES the least number", x.away(0, 15, 1), 8);
        x.say(0, 157);
        Due.is("Promise 21: nobody need be away", x.away(0, 15, 1), 0);
        x.say(0, 156);
        Due.is("Promise 21: of all four the least number", x.away(0, 15, 1), 2);
    }

    private static void awayInNothing() {
        LeftGloves x = silentOne(6, 0, 0);
        x.glove(4, 0);
        x.say(0, 159);
        x.change(0, 2, 1);
        Due.is("Promise 21: in company it NEEDS 1, and nobody need be away", x.away(0, 15, 1), 0);
        x.change(0, 2, 9);
        x.say(0, 152);
        Due.is("Promise 21: those away don't lie IN any ROOM: alone it NEEDS 0, hushed to 0", x.away(0, 15, 1), 2);
        LeftGloves y = silentOne(0, 1, 5);
        y.glove(1, 0);
        y.change(1, 4, 4);
        y.say(1, 1155);
        Due.is("Promise 21: (2) isn't done by one that is away: it doesn't come and HUSH", y.away(0, 15, 2), 2);
        LeftGloves z = silentOne(0, 0, 9);
        z.change(0, 3, 0);
        z.glove(5, 0);
        z.change(1, 4, 99);
        z.say(1, 151);
        Due.is("Promise 21: a STIFF one would HUSH from LIES 100 on", z.away(0, 15, 2), 2);
    }

    private static void awayBeyond() {
        int[] topics = {-1, 16, 17, LEAST, MOST};
        for (int topic : topics) {
            Refused.everywhere("Promise 21, BEYOND: TOPIC " + topic, Due.BEYOND, c -> c.away(0, topic, 1));
        }
        int[] days = {-1, 21, 22, LEAST, MOST};
        for (int n : days) {
            Refused.everywhere("Promise 21, BEYOND: n " + n, Due.BEYOND, c -> c.away(0, 0, n));
        }
        noGlove("Promise 21", g -> c -> c.away(g, 0, 1));
        Refused.is("Promise 21, NONE: a BURNT one hears nothing", Refused::some, Due.NONE, c -> c.away(3, 15, 20));
    }

    private static void nothingChanges() {
        LeftGloves x = Refused.some();
        LeftGloves y = Refused.some();
        x.leave(0, 60);
        x.openFor(1, 0, 60);
        x.kindFor(0, 60);
        x.lower(3);
        x.cover(0);
        Due.is("Promises 16 to 20: no findings here", x.status(-1), y.status(-1));
        x.away(0, 0, 20);
        for (int glove = 0; glove < 4; glove++) {
            for (int what = 0; what < 11; what++) {
                Due.is("Promises 16 to 21: nothing changes, of " + glove + " " + what, x.of(glove, what), y.of(glove, what));
            }
        }
        for (int what = 0; what < 8; what++) {
            Due.is("Promises 16 to 21: nothing changes, count " + what, x.count(what), y.count(what));
        }
    }
}
