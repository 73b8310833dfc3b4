/** Boundary cases of promises 37 to 41, and of FINDINGS in the Terms. */
public final class EdgesImageTest {
    private static final int LEAST = Integer.MIN_VALUE;
    private static final int MOST = Integer.MAX_VALUE;

    public static void main(String[] args) {
        imageOfNothing();
        allButTapeAndSheets();
        fewerAndMoreGloves();
        whatWasKeptStays();
        undoFindings();
        tear();
        countBounds();
        countBeyond();
        eachFinding();
        statusBeyond();
        undoTakesNoneBack();
        asOftenAsCanBe();
        Due.end();
    }

    private static void imageOfNothing() {
        LeftGloves x = new LeftGloves();
        Due.is("Promise 37: a new object is kept", x.image(), 1);
        x.glove(6, 5);
        x.go(60);
        x.say(0, 0);
        x.seed(9);
        x.hold(9, 0);
        Due.is("Promise 38: DAY 0", x.undo(), 0);
        int[] counts = {0, 0, 0, 0, 0, 0, 1, 0};
        for (int what = 0; what < 8; what++) {
            Due.is("Promise 38: all as at first, count " + what, x.count(what), counts[what]);
        }
        Due.is("Promise 38: THE LIST as at first", x.said(0), 5);
        Due.is("Promise 38: no GLOVE 0", x.of(0, 0), Due.BEYOND);
        Due.is("Promise 38: SPOT 9 holds nothing", x.as(9, 0), Due.MISSING);
    }

    private static void allButTapeAndSheets() {
        LeftGloves x = Refused.full();
        LeftGloves y = Refused.full();
        Due.is("Promise 37: 1", x.image() + y.image(), 2);
        x.wipe();
        x.feed('a', 1);
        x.sheet(0, 0, 0);
        x.sheet(1, 8, 2);
        for (int glove = 0; glove < 8; glove++) {
            for (int what = 0; what < 7; what++) {
                x.change(glove, what, (x.of(glove, what) + 1) % 6);
            }
        }
        for (int i = 0; i < 6; i++) {
            x.say(i, 3123);
        }
        for (int spot = 0; spot < 10; spot++) {
            x.hold(spot, -1);
        }
        x.talk(3);
        Due.is("Promise 38: DAY", x.undo(), 1);
        for (int glove = 0; glove < 8; glove++) {
            for (int what = 0; what < 11; what++) {
                Due.is("Promise 38: GLOVES are kept, of " + glove + " " + what, x.of(glove, what), y.of(glove, what));
            }
        }
        for (int i = 0; i < 6; i++) {
            Due.is("Promise 38: THE LIST is kept, place " + i, x.said(i), y.said(i));
        }
        for (int spot = 0; spot < 10; spot++) {
            Due.is("Promise 38: SPOTS are kept, " + spot, x.as(spot, 0), spot % 8);
        }
        Due.is("Promise 38: z is kept", x.count(6), 1);
        Due.is("Promise 38: THE TAPE isn't kept", x.count(5), 1);
        Due.is("Promise 38: SHEETS aren't kept, one is MISSING", x.judge(0), Due.MISSING);
        Due.is("Promise 38: SHEETS aren't kept, one has 2 numbers", x.write(1, 2, 0), Due.BEYOND);
        Due.is("Promise 38: SHEETS aren't kept, one of 8 bits", x.copy(1, 0, 2, 0, 0), Due.KIND);
    }

    private static void fewerAndMoreGloves() {
        LeftGloves x = new LeftGloves();
        x.glove(1, 1);
        x.change(0, 3, 1);
        x.image();
        for (int glove = 1; glove < 8; glove++) {
            x.glove(5, 1);
            int[] traits = {4, 1, 8, 2, 77, 4, 3};
            for (int what = 0; what < 7; what++) {
                x.change(glove, what, traits[what]);
            }
        }
        x.undo();
        Due.is("Promise 38: one GLOVE is there", x.count(1), 1);
        Due.is("Promise 38: seven aren't, in their ROOM", x.room(1, 0), 1);
        Due.is("Promise 38: seven aren't, in what GLOVES KNOW", x.now(1) * 10 + x.now(2), 10);
        Due.is("Promise 38: seven aren't, in DRAWN of all", x.now(4) + x.count(4), 0);
        Due.is("Promise 38: seven can't be held", x.hold(0, 1), Due.BEYOND);
        Due.is("Promise 38: the next one is number 1", x.glove(0, 0), 1);
        int[] first = {0, 0, 5, 0, 0, 0, 0};
        for (int what = 0; what < 7; what++) {
            Due.is("Promise 5: it is new, what " + what, x.of(1, what), first[what]);
        }
        x.change(1, 2, 0);
        x.change(1, 4, 9);
        Due.is("Promise 38: undone again", x.undo(), 0);
        Due.is("Promise 29: a TEXT tells a new one, too", Due.text(x, "glove"), 1);
        for (int what = 0; what < 7; what++) {
            Due.is("Promise 29: it is new, what " + what, x.of(1, what), first[what]);
        }
    }

    private static void whatWasKeptStays() {
        LeftGloves x = new LeftGloves();
        x.glove(5, 0);
        x.image();
        for (int time = 0; time < 3; time++) {
            x.change(0, 3, 65535);
            x.say(0, 0);
            x.hold(0, 0);
            x.go(60);
            Due.is("Promise 38: what was kept stays, time " + time, x.undo(), 0);
            Due.is("Promise 38: the GLOVE, time " + time, x.of(0, 3), 0);
            Due.is("Promise 38: THE LIST, time " + time, x.said(0), 5);
            Due.is("Promise 38: SPOTS, time " + time, x.count(7), 0);
        }
        x.go(2);
        x.image();
        x.go(3);
        Due.is("Promise 38: what was kept latest", x.undo(), 2);
        Due.is("Promise 38: nothing earlier", x.undo(), 2);
        LeftGloves y = new LeftGloves();
        y.glove(5, 0);
        y.image();
        y.ahead(0, 3, 100);
        y.away(0, 15, 20);
        y.kindFor(0, 60);
        Due.text(y, "lady;lady;sock");
        Due.is("Promise 38: what would be doesn't become what was kept", y.undo() + y.of(0, 0) + y.count(1), 6);
    }

    private static void undoFindings() {
        Refused.is("Promise 38, NONE: nothing is kept, new", LeftGloves::new, Due.NONE, c -> c.undo());
        LeftGloves x = Refused.some();
        x.tear();
        Due.is("Promise 38, NONE: nothing is kept any more", x.undo(), Due.NONE);
        Due.is("Promise 38, NONE: nothing changes", x.now(0), 8);
        Due.is("Promise 38, NONE: counted", x.status(3) * 10 + x.status(-1), 11);
        Due.is("Promise 38, NONE: once more", x.undo(), Due.NONE);
    }

    private static void tear() {
        LeftGloves x = new LeftGloves();
        Due.is("Promise 39: nothing was kept: 0", x.tear(), 0);
        x.image();
        x.image();
        Due.is("Promise 39: something was: 1", x.tear(), 1);
        Due.is("Promise 39: nothing is kept: 0", x.tear(), 0);
        x.image();
        x.undo();
        Due.is("Promise 39: undo() kept it: 1", x.tear(), 1);
        Due.is("Promise 39: nothing is kept", x.undo(), Due.NONE);
        Due.is("Promise 39: no finding of its own", x.status(-1), 1);
        x.go(4);
        Due.is("Promise 37: kept anew", x.image(), 1);
        x.go(1);
        Due.is("Promise 38: what is kept anew", x.undo(), 4);
    }

    private static void countBounds() {
        LeftGloves x = Refused.full();
        for (int glove = 0; glove < 8; glove++) {
            x.change(glove, 3, 65535);
            x.change(glove, 5, 65535);
            x.change(glove, 6, 9999);
        }
        x.seed(LEAST);
        int[] most = {1, 8, 16, 16, 79992, 120, LEAST, 10};
        for (int what = 0; what < 8; what++) {
            Due.is("Promise 40: the most there can be, what " + what, x.count(what), most[what]);
        }
        for (int glove = 0; glove < 8; glove++) {
            x.change(glove, 3, 32768);
            x.change(glove, 5, 0);
        }
        Due.is("Promise 40: TOPICS, not GLOVES: TOPIC 15 alone", x.count(2), 1);
        Due.is("Promise 40: HANDS KNOW none", x.count(3), 0);
        x.change(7, 3, 1);
        Due.is("Promise 40: two TOPICS together", x.count(2), 2);
    }

    private static void countBeyond() {
        int[] beyond = {-1, 8, 9, LEAST, MOST};
        for (int what : beyond) {
            Refused.everywhere("Promise 40, BEYOND: another what, " + what, Due.BEYOND, c -> c.count(what));
        }
    }

    private static void eachFinding() {
        LeftGloves x = new LeftGloves();
        x.glove(5, 0);
        x.hold(0, 0);
        long[] answers = {x.said(6), fullTape(x), x.as(0, 1), x.undo(), x.draw(0), x.judge(0), x.sheet(0, 8, -1)};
        for (int which = 0; which < 7; which++) {
            Due.is("Terms, FINDINGS: " + which, answers[which], -1000001 - which);
            Due.is("Promise 41: once each, " + which, x.status(which), 1);
        }
        Due.is("Promise 41: all", x.status(-1), 7);
        Due.is("Terms, FINDINGS: in longs, too", x.odds(9, 0, 0), -1000001L);
        Due.is("Promise 41: BEYOND, in longs, too", x.status(0), 2);
        Due.is("Promise 41: all, in longs, too", x.status(-1), 8);
    }

    private static int fullTape(LeftGloves x) {
        Refused.feed(x, " ".repeat(120));
        return x.feed(32, 1);
    }

    private static void statusBeyond() {
        int[] beyond = {-2, 7, 8, LEAST, MOST};
        for (int which : beyond) {
            Refused.everywhere("Promise 41, BEYOND: " + which, Due.BEYOND, c -> c.status(which));
        }
        LeftGloves x = new LeftGloves();
        Due.is("Promise 41: nothing is counted yet", x.status(-1) + x.status(0) + x.status(6), 0);
        Due.is("Promise 41, BEYOND", x.status(7), Due.BEYOND);
        Due.is("Promise 41: counted from then on", x.status(0), 1);
        Due.is("Promise 41: counted among all", x.status(-1), 1);
        Due.is("Promise 41: telling counts nothing", x.status(-1), 1);
        Due.is("Promise 41, BEYOND, below", x.status(-2), Due.BEYOND);
        Due.is("Promise 41: two", x.status(0), 2);
        for (int which = 1; which < 7; which++) {
            Due.is("Promise 41: none of the others, " + which, x.status(which), 0);
        }
    }

    private static void undoTakesNoneBack() {
        LeftGloves x = new LeftGloves();
        x.said(6);
        x.image();
        x.said(6);
        x.judge(0);
        x.undo();
        Due.is("Promise 41: undo() takes none back, BEYOND", x.status(0), 2);
        Due.is("Promise 41: undo() takes none back, MISSING", x.status(5), 1);
        x.tear();
        x.undo();
        Due.is("Promise 41: all", x.status(-1), 4);
    }

    private static void asOftenAsCanBe() {
        LeftGloves x = new LeftGloves();
        for (int i = 0; i < 510; i++) {
            x.hold(10, 0);
        }
        Due.is("Promise 41: in 510 calls of 512", x.status(0), 510);
        Due.is("Promise 41: all, the last call", x.status(-1), 510);
    }
}
