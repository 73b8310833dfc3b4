/** Promises 12 to 15: ahead, hears, wise, out. */
public final class AheadTest {
    public static void main(String[] args) {
        ahead();
        aheadIsWhatComes();
        hears();
        wise();
        out();
        theLastDayThatCounts();
        Due.end();
    }

    private static void ahead() {
        LeftGloves x = Due.club("glove open 9 knows 2;stiff;said 0 0 2 9;said 1 1 3 9");
        Due.is("room now", x.ahead(0, 1, 0), 0);
        Due.is("room behind 6", x.ahead(0, 1, 6), 0);
        Due.is("room behind 7", x.ahead(0, 1, 7), 1);
        Due.is("room behind 42", x.ahead(0, 1, 42), 0);
        Due.is("knows behind 0", x.ahead(0, 3, 0), 2);
        Due.is("knows behind 1", x.ahead(0, 3, 1), 6);
        Due.is("knows behind 7", x.ahead(0, 3, 7), 0);
        Due.is("knows behind 8", x.ahead(0, 3, 8), 8);
        Due.is("lies behind 6", x.ahead(0, 4, 6), 6);
        Due.is("lies behind 100", x.ahead(1, 4, 100), 100);
        Due.is("hand behind 6", x.ahead(0, 5, 6), 0);
        Due.is("hand behind 7", x.ahead(0, 5, 7), 6);
        Due.is("drawn behind 100", x.ahead(0, 6, 100), 14);
        int[] no = {-1, 0, 2, 7, 8, 9, 10, 11};
        for (int what : no) {
            Due.is("ahead what " + what, x.ahead(0, what, 1), Due.BEYOND);
        }
        Due.is("ahead of none", x.ahead(2, 1, 1), Due.BEYOND);
        Due.is("ahead of -1", x.ahead(-1, 1, 1), Due.BEYOND);
        Due.is("ahead -1", x.ahead(0, 1, -1), Due.BEYOND);
        Due.is("ahead 101", x.ahead(0, 1, 101), Due.BEYOND);
        Due.is("no day went by", x.now(0), 0);
        Due.is("nothing changed", x.of(0, 3), 2);
    }

    private static void aheadIsWhatComes() {
        LeftGloves x = Due.club("double in 1 open 3;lady in 2 open 8;glove in 2 open 7;kidskin in 3 open 6;said 0 2 9 7");
        int[] whats = {1, 3, 4, 5, 6};
        int[][] told = new int[4][5];
        for (int glove = 0; glove < 4; glove++) {
            for (int i = 0; i < 5; i++) {
                told[glove][i] = x.ahead(glove, whats[i], 33);
            }
        }
        x.go(33);
        for (int glove = 0; glove < 4; glove++) {
            for (int i = 0; i < 5; i++) {
                Due.is("as told of " + glove + " " + whats[i], x.of(glove, whats[i]), told[glove][i]);
            }
        }
    }

    private static void hears() {
        LeftGloves x = Due.club("glove open 9 knows 1;burnt;said 5 1 9 9;said 2 0 4 9");
        Due.is("knows it already", x.hears(0, 0), 0);
        Due.is("heard on the third day", x.hears(0, 4), 3);
        Due.is("heard in the next room", x.hears(0, 9), 12);
        Due.is("never said", x.hears(0, 15), Due.NONE);
        Due.is("burnt", x.hears(1, 0), Due.NONE);
        Due.is("hears of none", x.hears(2, 0), Due.BEYOND);
        Due.is("hears of -1", x.hears(-1, 0), Due.BEYOND);
        Due.is("hears -1", x.hears(0, -1), Due.BEYOND);
        Due.is("hears 16", x.hears(0, 16), Due.BEYOND);
        Due.is("no day went by", x.now(0), 0);
        // Said on its last day only: it goes into the hand and is never known by the glove.
        LeftGloves y = Due.club("glove open 9 lies 6;said 0 0 15 9;said 1 0 0 0;said 2 0 0 0;said 3 0 0 0;said 4 0 0 0;said 5 0 0 0");
        Due.is("drawn on on that day", y.ahead(0, 5, 1), 32768);
        // Rooms change behind 1, 8, 15, 22, 29 and 36 days: in room 0 again, and day 36 says it.
        Due.is("it knows it only from a round later", y.hears(0, 15), 37);
        LeftGloves z = Due.club("stiff in 1");
        Due.is("a stiff one hears all of its room", z.hears(0, 1), 2);
    }

    private static void wise() {
        LeftGloves x = Due.club("glove open 9 knows 7;stiff knows 65535;said 0 1 9 9;hand 1 3");
        Due.is("0 topics", x.wise(0, 0), 0);
        Due.is("1 topic", x.wise(0, 1), 7);
        Due.is("3 topics: with what is said in room 0", x.wise(0, 3), 7);
        Due.is("4 topics: 9 is said in room 1 on day 12", x.wise(0, 4), 14);
        Due.is("16 topics", x.wise(0, 16), Due.NONE);
        Due.is("a stiff one has 2", x.wise(1, 2), 0);
        Due.is("and never 3", x.wise(1, 3), Due.NONE);
        Due.is("wise of none", x.wise(2, 0), Due.BEYOND);
        Due.is("wise -1", x.wise(0, -1), Due.BEYOND);
        Due.is("wise 17", x.wise(0, 17), Due.BEYOND);
        Due.is("wise of -1", x.wise(-1, 1), Due.BEYOND);
        Due.is("nothing changed", x.of(0, 5), 0);
    }

    /** A double that hears only in a mitten's company: they meet where it is said late, or too late. */
    private static LeftGloves meeting(int doubleLies, int mittenRoom, int place, int saying) {
        LeftGloves x = Due.club("double open 0;mitten open 0");
        x.change(0, 4, doubleLies);
        x.change(1, 1, mittenRoom);
        for (int i = 0; i < 6; i++) {
            x.say(i, i == place ? saying : 0);
        }
        return x;
    }

    private static void theLastDayThatCounts() {
        LeftGloves x = meeting(1, 2, 1, 4155);
        Due.is("heard on the last day", x.hears(0, 15), 200);
        Due.is("out on the last day", x.out(32768), 200);
        Due.is("wise too late", x.wise(0, 1), Due.NONE);
        LeftGloves y = meeting(1, 2, 2, 4155);
        Due.is("heard a day too late", y.hears(0, 15), Due.NONE);
        Due.is("out a day too late", y.out(32768), Due.NONE);
        Due.is("wise on the last day", meeting(0, 1, 0, 3155).wise(0, 1), 200);
        Due.is("wise a day too late", meeting(4, 2, 0, 4155).wise(0, 1), Due.NONE);
        for (int day = 0; day < 200; day++) {
            Due.is("not yet heard", x.who(15, 0), 0);
            x.go(1);
            y.go(1);
        }
        Due.is("heard by then", x.who(15, 0), 1);
        Due.is("not heard by then", y.who(15, 0), 0);
        y.go(1);
        Due.is("heard a day later", y.who(15, 0), 1);
    }

    private static void out() {
        LeftGloves x = Due.club("glove open 9 knows 6;stiff in 3;hand 0 8");
        Due.is("nothing", x.out(0), 0);
        Due.is("known already, one by the hand", x.out(14), 0);
        Due.is("0 is said on day 0", x.out(1), 1);
        Due.is("3 and 0", x.out(9), 1);
        Due.is("6 never", x.out(64), Due.NONE);
        Due.is("out -1", x.out(-1), Due.BEYOND);
        Due.is("out 65536", x.out(65536), Due.BEYOND);
        Due.is("out 65535", x.out(65535), Due.NONE);
        LeftGloves y = new LeftGloves();
        Due.is("no gloves: nothing is known", y.out(0), 0);
        Due.is("no gloves: 0 never", y.out(1), Due.NONE);
        Due.is("findings", y.status(3), 1);
        LeftGloves z = Due.club("mitten open 9 knows 0;said 0 5 15 9");
        Due.is("mitten in room 5 from day 70 on, said on day 72", z.out(32768), 73);
        Due.is("in its hand from day 84 on", z.ahead(0, 5, 84) >> 15, 1);
        Due.is("and not before", z.ahead(0, 5, 83) >> 15, 0);
    }
}
