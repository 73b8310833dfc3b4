/** Boundary cases of promises 10 and 11, and of a DAY in the Terms. */
public final class EdgesDaysTest {
    private static final int LEAST = Integer.MIN_VALUE;
    private static final int MOST = Integer.MAX_VALUE;
    private static final int[] STAYS = {7, 5, 14, 14, 0, 0, 5};
    private static final int[] KEEPS = {6, 8, 3, 3, 3, 16, 10};

    public static void main(String[] args) {
        loudEnough();
        hushedToNothing();
        saidAtNothing();
        keepsJustSoMany();
        forgetsTheLeast();
        liesAtMost();
        drawnOn();
        theLastRoom();
        theListGoesRound();
        aloneOrNot();
        goBeyond();
        lastDay();
        nowEmpty();
        nowFull();
        nowTies();
        nowHears();
        nowBeyond();
        Due.end();
    }

    /** One GLOVE of a KIND IN ROOM 2; all of THE LIST says TOPIC 8 IN ROOM 2, so LOUD. */
    private static LeftGloves one(int kind, int open, int loud) {
        LeftGloves x = new LeftGloves();
        x.glove(kind, 2);
        x.change(0, 2, open);
        for (int i = 0; i < 6; i++) {
            x.say(i, 2080 + loud);
        }
        return x;
    }

    private static void loudEnough() {
        for (int open = 1; open < 10; open++) {
            Due.is("Terms, DAY (1): NEEDS just that, OPEN " + open, one(0, open, 10 - open).go(1), 256);
            Due.is("Terms, DAY (1): NEEDS 1 more than that, OPEN " + open, one(0, open, 9 - open).go(1), 0);
        }
        Due.is("Terms, DAY (1): OPEN 0 hears nothing at all", one(0, 0, 9).go(6), 0);
        Due.is("Terms, DAY (1): a KIDSKIN HUSHES what it hears itself", one(1, 0, 8).go(1), 0);
        Due.is("Terms, DAY (1): a KIDSKIN, LOUD 9 less 1, NEEDS 8", one(1, 0, 9).go(1), 256);
        Due.is("Terms, DAY (1): a MITTEN, OPEN 3, NEEDS 10", one(2, 3, 9).go(1), 0);
        Due.is("Terms, DAY (1): a MITTEN, OPEN 4, NEEDS 9", one(2, 4, 9).go(1), 256);
        Due.is("Terms, DAY (1): a LADY, OPEN 0, NEEDS 9, hushed to 8", one(3, 0, 9).go(1), 0);
        Due.is("Terms, DAY (1): a LADY, OPEN 1, NEEDS 8, hushed to 8", one(3, 1, 9).go(1), 256);
        Due.is("Terms, DAY (1): a BURNT one NEEDS 99", one(4, 9, 9).go(6), 0);
        Due.is("Terms, DAY (1): a DOUBLE, OPEN 1, NEEDS 7, hushed to 7", one(6, 1, 9).go(1), 256);
        Due.is("Terms, DAY (1): a DOUBLE, OPEN 0, NEEDS 8, hushed to 7", one(6, 0, 9).go(1), 0);
        LeftGloves x = one(0, 9, 9);
        x.change(0, 1, 1);
        Due.is("Terms, DAY (1): the ROOM ahead of it hears nothing", x.go(1), 0);
        x.change(0, 1, 3);
        Due.is("Terms, DAY (1): the ROOM behind it hears nothing", x.go(1), 0);
    }

    private static void hushedToNothing() {
        LeftGloves x = one(5, 0, 9);
        for (int glove = 1; glove < 8; glove++) {
            x.glove(6, 2);
        }
        Due.is("Terms, DAY (1): hushed by 14, 0 at least: who NEEDS 0 hears", x.go(1), 256);
        Due.is("Terms, DAY (1): that is the STIFF one alone", x.who(8, 0), 1);
        LeftGloves y = one(5, 0, 9);
        for (int glove = 1; glove < 5; glove++) {
            y.glove(6, 2);
        }
        Due.is("Terms, DAY (1): hushed by 8 to 1: DOUBLES in company NEED 1", y.now(6), 31);
        y.glove(1, 2);
        Due.is("Terms, DAY (1): hushed by 9 to just 0: they don't hear", y.now(6), 1);
        y.change(5, 2, 8);
        Due.is("Terms, DAY (1): hushed to just 0: a KIDSKIN that NEEDS 0 does", y.now(6), 33);
        LeftGloves z = one(0, 5, 6);
        z.glove(5, 2);
        z.change(1, 4, 98);
        Due.is("Terms, DAY (1): a STIFF one that LIES 98 DAYS doesn't HUSH", z.now(6), 3);
        z.say(1, 2095);
        z.say(2, 2105);
        z.say(3, 2116);
        Due.is("Terms, DAY (1): nor does it while it LIES 99", z.go(2), 256 + 512);
        Due.is("Terms, DAY (1): on the DAY it LIES 100 it HUSHES", z.now(6), 2);
        Due.is("Terms, DAY (1): the STIFF one hears it", z.go(1), 256 + 512 + 1024);
        Due.is("Terms, DAY (1): the GLOVE doesn't", z.of(0, 3), 256 + 512);
        Due.is("Terms, DAY (1): hushed by 1, said 1 louder", z.now(6), 3);
        LeftGloves w = one(0, 5, 5);
        w.glove(6, 1);
        Due.is("Terms, DAY (1): GLOVES of another ROOM don't HUSH", w.go(1), 256);
    }

    private static void saidAtNothing() {
        Due.is("Terms, DAY (1): LOUD 0, NEEDS 1", one(0, 9, 0).go(1), 0);
        Due.is("Terms, DAY (1): LOUD 0, a STIFF one NEEDS 0", one(5, 0, 0).go(1), 256);
        Due.is("Terms, DAY (1): LOUD 0, a LADY that NEEDS 0", one(3, 9, 0).go(1), 256);
        Due.is("Terms, DAY (1): LOUD 0, a LADY that NEEDS 1", one(3, 8, 0).go(1), 0);
        Due.is("Terms, DAY (1): LOUD 1 hushed to 0, a LADY that NEEDS 0", one(3, 9, 1).go(1), 256);
        Due.is("Terms, DAY (1): LOUD 0, a KIDSKIN that NEEDS 0", one(1, 8, 0).go(1), 256);
        Due.is("Terms, DAY (1): LOUD 0, a KIDSKIN that NEEDS 1", one(1, 7, 0).go(1), 0);
        Due.is("Terms, DAY (1): LOUD 0, a DOUBLE alone that NEEDS 0", one(6, 8, 0).go(1), 256);
        Due.is("Terms, DAY (1): LOUD 1, NEEDS 1", one(0, 9, 1).go(1), 256);
    }

    /** The n greatest TOPICS, but not TOPIC 8. */
    private static int greatest(int n) {
        int set = 0;
        for (int topic = 15; topic >= 0; topic--) {
            if (topic != 8 && Integer.bitCount(set) < n) {
                set |= 1 << topic;
            }
        }
        return set;
    }

    private static void keepsJustSoMany() {
        for (int kind = 0; kind < 7; kind++) {
            if (kind == 4) {
                continue;
            }
            int fewer = greatest(KEEPS[kind] - 1);
            LeftGloves x = one(kind, 9, 9);
            x.change(0, 3, fewer);
            Due.is("Terms, DAY (1): KNOWS just so many then as it KEEPS, KIND " + kind, x.go(1), fewer | 256);
            if (KEEPS[kind] < 16) {
                LeftGloves y = one(kind, 9, 9);
                y.change(0, 3, greatest(KEEPS[kind]));
                Due.is("Terms, DAY (1): KNOWS 1 more, forgets the least, KIND " + kind, y.go(1), fewer | 256);
            }
        }
        LeftGloves b = one(4, 9, 9);
        b.change(0, 3, 65535);
        Due.is("Terms, DAY (1): a BURNT one hears nothing and forgets nothing", b.go(6), 65535);
        LeftGloves s = one(5, 0, 0);
        s.change(0, 3, 65535 - 256);
        Due.is("Terms, DAY (1): a STIFF one KEEPS all 16", s.go(6), 65535);
    }

    private static void forgetsTheLeast() {
        LeftGloves x = one(2, 9, 9);
        x.change(0, 3, 0b1110000000000000);
        Due.is("Terms, DAY (1): the TOPIC is the least: the next least is forgotten", x.go(1), 0b1100000100000000);
        LeftGloves y = one(2, 9, 9);
        y.change(0, 3, 0b111);
        Due.is("Terms, DAY (1): the TOPIC is the greatest: TOPIC 0 is forgotten", y.go(1), 0b100000110);
        LeftGloves z = one(2, 9, 9);
        z.change(0, 3, 0b100000011);
        Due.is("Terms, DAY (1): what it KNOWS already is no more than it KEEPS", z.go(1), 0b100000011);
        LeftGloves w = one(2, 9, 9);
        w.say(0, 2009);
        w.change(0, 3, 0b1110);
        Due.is("Terms, DAY (1): not TOPIC 0 itself", w.go(1), 0b1101);
        LeftGloves v = one(2, 9, 9);
        v.say(0, 2159);
        v.change(0, 3, 0b0111000000000000);
        Due.is("Terms, DAY (1): TOPIC 15 is heard", v.go(1), 0b1110000000000000);
        LeftGloves u = one(2, 9, 9);
        u.change(0, 3, 65535);
        Due.is("Terms, DAY (1): it forgets one TOPIC a DAY", u.go(1), 65534);
        Due.is("Terms, DAY (1): and one more on the next", u.go(1), 65532);
        LeftGloves t = one(2, 0, 9);
        t.change(0, 3, 65535);
        Due.is("Terms, DAY (1): one that doesn't hear forgets nothing", t.go(6), 65535);
        t.change(0, 0, 3);
        Due.is("Promise 7: nor does one whose KIND changes", t.of(0, 3), 65535);
    }

    private static void liesAtMost() {
        LeftGloves x = new LeftGloves();
        x.glove(5, 0);
        x.glove(4, 0);
        x.change(0, 4, 9998);
        x.change(1, 4, 9999);
        x.go(1);
        Due.is("Terms, DAY (2): LIES 9999", x.of(0, 4), 9999);
        Due.is("Terms, DAY (2): LIES 9999 at most", x.of(1, 4), 9999);
        x.go(60);
        Due.is("Terms, DAY (2): LIES 9999 at most, 61 DAYS on", x.of(0, 4), 9999);
        Due.is("Terms, DAY (2): STAYS 0: for ever", x.of(0, 6) + x.of(1, 6) + x.of(0, 1), 0);
    }

    private static void drawnOn() {
        for (int kind = 0; kind < 7; kind++) {
            if (STAYS[kind] == 0) {
                continue;
            }
            int[] lies = {STAYS[kind] - 2, STAYS[kind] - 1, STAYS[kind], 9998, 9999};
            for (int days : lies) {
                LeftGloves x = new LeftGloves();
                x.glove(kind, 4);
                x.change(0, 3, 6);
                x.change(0, 5, 3);
                x.change(0, 4, days);
                x.go(1);
                boolean drawn = days + 1 >= STAYS[kind];
                String told = "Terms, DAY (2): KIND " + kind + " LIES " + days + " and 1 more, ";
                Due.is(told + "DRAWN", x.of(0, 6), drawn ? 1 : 0);
                Due.is(told + "ROOM", x.of(0, 1), drawn ? 5 : 4);
                Due.is(told + "KNOWS", x.of(0, 3), drawn ? 0 : 6);
                Due.is(told + "HAND", x.of(0, 5), drawn ? 7 : 3);
                Due.is(told + "LIES", x.of(0, 4), drawn ? 0 : days + 1);
            }
        }
        LeftGloves x = new LeftGloves();
        x.glove(1, 0);
        x.change(0, 6, 9998);
        x.go(5);
        Due.is("Terms, DAY (2): DRAWN 9999", x.of(0, 6), 9999);
        x.go(5);
        Due.is("Terms, DAY (2): DRAWN 9999 at most", x.of(0, 6), 9999);
        LeftGloves y = one(0, 9, 9);
        y.change(0, 4, 6);
        Due.is("Terms, DAY: (1) comes ahead of (2), so nothing is left in the GLOVE", y.go(1), 0);
        Due.is("Terms, DAY: (1) comes ahead of (2), so its HAND KNOWS it", y.of(0, 5), 256);
    }

    private static void theLastRoom() {
        LeftGloves x = new LeftGloves();
        x.glove(1, 0);
        for (int i = 1; i <= 12; i++) {
            x.go(5);
            Due.is("Terms, DAY (2): the next ROOM, behind 5 comes 0, time " + i, x.of(0, 1), i % 6);
        }
        Due.is("Terms, DAY (2): DRAWN each time", x.of(0, 6), 12);
        LeftGloves y = one(0, 9, 9);
        y.glove(0, 1);
        y.change(0, 2, 0);
        y.change(1, 2, 9);
        y.change(1, 4, 6);
        y.go(1);
        Due.is("Terms, DAY: one that comes into a ROOM in (2) doesn't hear what was said there in (1)", y.of(1, 3), 0);
        Due.is("Terms, DAY: it came there", y.of(1, 1), 2);
    }

    private static void theListGoesRound() {
        LeftGloves x = new LeftGloves();
        x.glove(5, 0);
        for (int i = 0; i < 6; i++) {
            x.say(i, 10 * i);
        }
        int[] due = {1, 3, 7, 15, 31, 63};
        for (int i = 0; i < 6; i++) {
            Due.is("Terms, DAY (1): DAY modulo 6, DAY " + i, x.go(1), due[i]);
        }
        x.change(0, 3, 0);
        Due.is("Terms, DAY (1): DAY 6 says place 0 again", x.go(1), 1);
        x.change(0, 3, 0);
        x.go(4);
        x.change(0, 3, 0);
        Due.is("Terms, DAY (1): DAY 11 says place 5", x.go(1), 32);
        Due.is("Promise 10: 12 DAYS went by", x.now(0), 12);
    }

    private static void aloneOrNot() {
        LeftGloves x = one(6, 0, 3);
        x.glove(4, 1);
        Due.is("Terms, DAY (1): a DOUBLE alone NEEDS 8", x.go(1), 0);
        x.change(1, 1, 2);
        Due.is("Terms, DAY (1): a DOUBLE in company NEEDS 1, hushed to 1", x.go(1), 256);
        LeftGloves y = one(6, 0, 2);
        y.glove(4, 2);
        Due.is("Terms, DAY (1): hushed to 0, it NEEDS 1", y.go(1), 0);
        LeftGloves z = one(6, 9, 2);
        z.glove(4, 2);
        Due.is("Terms, DAY (1): in company it NEEDS 1 though its fingers are open", z.go(1), 0);
        z.change(1, 1, 3);
        Due.is("Terms, DAY (1): alone it NEEDS 0", z.go(1), 256);
    }

    private static void goBeyond() {
        int[] beyond = {0, -1, 61, 62, LEAST, MOST};
        for (int n : beyond) {
            Refused.everywhere("Promise 10, BEYOND: n " + n, Due.BEYOND, c -> c.go(n));
        }
        LeftGloves x = new LeftGloves();
        Due.is("Promise 10: no GLOVES: nothing is KNOWN, n 1", x.go(1), 0);
        Due.is("Promise 10: 1 DAY", x.now(0), 1);
        Due.is("Promise 10: n 60", x.go(60), 0);
        Due.is("Promise 10: 60 DAYS more", x.now(0), 61);
        LeftGloves y = one(5, 5, 5);
        LeftGloves z = one(5, 5, 5);
        for (int i = 0; i < 60; i++) {
            z.go(1);
        }
        Due.is("Promise 10: 60 DAYS at once are as 60 times one", y.go(60), z.now(1));
        Due.is("Promise 10: LIES 60", y.of(0, 4), 60);
        LeftGloves w = Refused.full();
        Due.is("Promise 10: what HANDS KNOW isn't told", w.go(60) & ~w.now(1), 0);
    }

    /** DAY 99999 is out of reach of 512 calls; what comes there is seen with more of them. */
    private static LeftGloves late(int day) {
        LeftGloves x = new LeftGloves();
        x.glove(5, 3);
        for (int i = 0; i < 1666; i++) {
            x.go(60);
        }
        x.go(day - 99960);
        x.change(0, 3, 0);
        return x;
    }

    private static void lastDay() {
        LeftGloves x = late(99998);
        Due.is("Promise 10, STATE: DAY would be 100000", x.go(2), Due.STATE);
        Due.is("Promise 10, STATE: DAY would be far above", x.go(60), Due.STATE);
        Due.is("Promise 10: BEYOND is asked ahead of STATE", x.go(61), Due.BEYOND);
        Due.is("Promise 10: BEYOND is asked ahead of STATE, n 0", x.go(0), Due.BEYOND);
        Due.is("Promise 24, STATE: DAY would be 100000", x.talk(2), Due.STATE);
        Due.is("Promise 24: BEYOND is asked ahead of STATE", x.talk(21), Due.BEYOND);
        Due.is("Promise 24, STATE: no draws were made", x.count(6), 1);
        Due.is("Promise 10, STATE: no DAY went by", x.now(0), 99998);
        Due.is("Promise 41: four findings of STATE and BEYOND each", x.status(4) * 10 + x.status(0), 33);
        x.image();
        Due.is("Promise 10: DAY becomes 99999", x.go(1), 0);
        Due.is("Promise 10: DAY is 99999", x.now(0), 99999);
        Due.is("Promise 10, STATE: no DAY behind 99999", x.go(1), Due.STATE);
        Due.is("Promise 24, STATE: no DAY behind 99999", x.talk(1), Due.STATE);
        Due.is("Promise 38: DAY", x.undo(), 99998);
        x.talk(1);
        Due.is("Promise 24: DAY becomes 99999", x.now(0), 99999);
        LeftGloves y = late(99999);
        Due.is("Terms, DAY: 99999 at most, it says place 3 on and on", y.ahead(0, 3, 2), 8);
        Due.is("Terms, DAY: 99999 at most, ahead() changes nothing", y.now(0), 99999);
    }

    private static void nowEmpty() {
        LeftGloves x = new LeftGloves();
        int[] due = {0, 0, 0, 65535, 0, -1, 0};
        for (int what = 0; what < 7; what++) {
            Due.is("Promise 11: there are no GLOVES, what " + what, x.now(what), due[what]);
        }
        Due.is("Promise 11: -1 is no finding", x.status(-1), 0);
    }

    private static void nowFull() {
        LeftGloves x = new LeftGloves();
        for (int glove = 0; glove < 8; glove++) {
            x.glove(5, 0);
            x.change(glove, 3, 1 << glove);
            x.change(glove, 5, 256 << glove);
            x.change(glove, 6, 9999);
        }
        int[] due = {0, 255, 65280, 0, 79992, 0, 255};
        for (int what = 0; what < 7; what++) {
            Due.is("Promise 11: eight GLOVES, what " + what, x.now(what), due[what]);
        }
        x.change(7, 5, 0);
        Due.is("Promise 11: TOPIC 15 is known to neither", x.now(3), 32768);
        x.change(0, 3, 0);
        Due.is("Promise 11: nor is TOPIC 0", x.now(3), 32769);
    }

    private static void nowTies() {
        LeftGloves x = new LeftGloves();
        for (int glove = 0; glove < 8; glove++) {
            x.glove(0, 0);
        }
        Due.is("Promise 11: no HAND KNOWS anything: the least number", x.now(5), 0);
        x.change(7, 5, 32768);
        Due.is("Promise 11: the last one's HAND KNOWS most", x.now(5), 7);
        x.change(3, 5, 1);
        Due.is("Promise 11: of two the least number", x.now(5), 3);
        x.change(5, 5, 3);
        Due.is("Promise 11: most TOPICS, not the greatest set", x.now(5), 5);
        x.change(4, 3, 65535);
        Due.is("Promise 11: what a GLOVE KNOWS doesn't count", x.now(5), 5);
    }

    private static void nowHears() {
        LeftGloves x = one(0, 5, 5);
        x.glove(0, 2);
        x.change(1, 2, 4);
        Due.is("Promise 11: it would come to KNOW", x.now(6), 1);
        x.change(0, 3, 256);
        Due.is("Promise 11: or KNOWS", x.now(6), 1);
        x.change(1, 3, 256);
        Due.is("Promise 11: one that KNOWS but wouldn't hear isn't told", x.now(6), 1);
        x.say(1, 0);
        x.go(1);
        Due.is("Promise 11: the SAYING of this DAY, not of the last one", x.now(6), 0);
        x.go(5);
        Due.is("Promise 11: DAY 6 says place 0", x.now(0) * 10 + x.now(6), 61);
        LeftGloves y = one(0, 9, 9);
        y.change(0, 4, 6);
        Due.is("Promise 11: it would hear, though it is drawn on that DAY", y.now(6), 1);
    }

    private static void nowBeyond() {
        int[] beyond = {-1, 7, 8, LEAST, MOST};
        for (int what : beyond) {
            Refused.everywhere("Promise 11, BEYOND: what " + what, Due.BEYOND, c -> c.now(what));
        }
    }
}
