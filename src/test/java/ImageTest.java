/** Promises 37 to 41: image, undo, tear, count, status. */
public final class ImageTest {
    public static void main(String[] args) {
        undo();
        whatIsNotKept();
        goneGloves();
        latest();
        tear();
        count();
        status();
        Due.end();
    }

    private static void undo() {
        LeftGloves x = Due.club("glove in 1 open 2 knows 3 lies 4;lady;hand 0 5;said 2 3 4 5");
        x.change(0, 6, 6);
        x.hold(3, 1);
        x.seed(77);
        x.go(2);
        int[] traits = new int[11];
        for (int what = 0; what < 11; what++) {
            traits[what] = x.of(0, what);
        }
        Due.is("image", x.image(), 1);
        x.talk(9);
        x.go(9);
        x.glove(4, 4);
        x.hold(3, -1);
        x.hold(5, 2);
        x.seed(1234);
        x.say(2, 9);
        for (int what = 0; what < 7; what++) {
            x.change(0, what, 1);
        }
        Due.is("undo", x.undo(), 2);
        Due.is("day", x.now(0), 2);
        Due.is("gloves", x.count(1), 2);
        for (int what = 0; what < 11; what++) {
            Due.is("of 0 " + what, x.of(0, what), traits[what]);
        }
        Due.is("spot 3", x.as(3, 3), 1);
        Due.is("spot 5", x.as(5, 0), Due.MISSING);
        Due.is("z", x.count(6), 77);
        Due.is("said 2", x.said(2), 3045);
        Due.is("said 0", x.said(0), 5);
        x.go(1);
        Due.is("it stays", x.undo(), 2);
        Due.is("and again", x.undo(), 2);
        Due.is("no days ahead in it", x.ahead(0, 4, 5) >= 0 ? x.undo() : -1, 2);
    }

    private static void whatIsNotKept() {
        LeftGloves x = new LeftGloves();
        Due.sheet(x, 0, 1, 2);
        Due.feed(x, "lady");
        x.image();
        Due.sheet(x, 0, 0, 3, 4);
        x.sheet(1, 8, 1);
        Due.feed(x, ";glove");
        x.of(0, 0);
        Due.is("undo", x.undo(), 0);
        Due.is("the tape stays as it is", x.count(5), 10);
        Due.is("and is read", x.text(), 2);
        Due.is("the sheet stays as it is", x.judge(0), 2);
        Due.is("so does the other", x.judge(1), 0);
        Due.is("findings stay", x.status(-1), 1);
        x.tear();
        x.undo();
        Due.is("two findings", x.status(-1), 2);
    }

    /** Gloves that an undo took back are in no answer any more. */
    private static void goneGloves() {
        LeftGloves x = new LeftGloves();
        x.image();
        for (int glove = 0; glove < 8; glove++) {
            x.glove(6, 0);
            int[] traits = {6, 0, 9, 65535, 4, 65535, 9};
            for (int what = 0; what < 7; what++) {
                x.change(glove, what, traits[what]);
            }
        }
        answers(x, 8, 255);
        x.undo();
        answers(x, 0, 0);
        x.glove(0, 0);
        Due.is("nobody else is in the room", x.room(0, 0), 1);
        Due.is("nobody hushes", x.room(0, 1), 0);
        Due.is("nobody is covered by", x.cover(1), Due.NONE);
        Due.is("need not be away", x.away(0, 0, 1), 0);
        Due.is("heard", x.go(1), 1);
    }

    private static void answers(LeftGloves x, int gloves, int set) {
        int topics = gloves == 0 ? 0 : 65535;
        Due.is("gloves", x.count(1), gloves);
        Due.is("in the room", x.room(0, 0), set);
        Due.is("hush", x.room(0, 1), 2 * gloves);
        Due.is("known in the room", x.room(0, 2), topics);
        Due.is("who", x.who(3, 0), set);
        Due.is("whose hand", x.who(3, 1), set);
        Due.is("known", x.now(1), topics);
        Due.is("known by hands", x.now(2), topics);
        Due.is("known by neither", x.now(3), 65535 - topics);
        Due.is("drawn", x.now(4), 9 * gloves);
        Due.is("wisest", x.now(5), gloves == 0 ? -1 : 0);
        Due.is("hearers", x.now(6), 0);
        Due.is("drawn", x.count(4), 9 * gloves);
        Due.is("out", x.out(65535), gloves == 0 ? Due.NONE : 0);
        Due.is("cover", x.cover(65535), gloves == 0 ? Due.NONE : 1);
        Due.is("lower", x.lower(0), 9);
    }

    private static void latest() {
        LeftGloves x = new LeftGloves();
        x.image();
        x.go(3);
        x.image();
        x.go(4);
        Due.is("the latest", x.undo(), 3);
        Due.is("and no earlier one", x.undo(), 3);
    }

    private static void tear() {
        LeftGloves x = new LeftGloves();
        Due.is("nothing was kept", x.tear(), 0);
        x.image();
        x.go(5);
        x.image();
        x.go(1);
        Due.is("something was", x.tear(), 1);
        Due.is("nothing is kept", x.undo(), Due.NONE);
        Due.is("nothing changed", x.now(0), 6);
        Due.is("nothing was kept", x.tear(), 0);
        Due.is("image", x.image(), 1);
        Due.is("undo", x.undo(), 6);
    }

    private static void count() {
        LeftGloves x = Due.club("glove knows 7;lady knows 12;hand 0 48;hand 1 16");
        x.change(0, 6, 4);
        x.change(1, 6, 5);
        x.hold(0, 0);
        x.hold(1, 0);
        x.hold(9, 1);
        x.seed(-5);
        Due.feed(x, "abc");
        int[] due = {0, 2, 4, 2, 9, 3, -5, 3};
        for (int what = 0; what < 8; what++) {
            Due.is("count " + what, x.count(what), due[what]);
        }
        x.go(2);
        Due.is("count 0", x.count(0), 2);
        Due.is("count -1", x.count(-1), Due.BEYOND);
        Due.is("count 8", x.count(8), Due.BEYOND);
    }

    private static void status() {
        LeftGloves x = new LeftGloves();
        x.said(9);
        x.said(9);
        for (int i = 0; i < 9; i++) {
            x.glove(5, 0);
        }
        x.hold(0, 0);
        x.as(0, 1);
        x.undo();
        x.undo();
        x.undo();
        x.draw(0);
        x.draw(1);
        x.judge(0);
        x.sheet(0, 8, -1);
        int[] due = {2, 1, 1, 3, 2, 1, 1};
        int all = 0;
        for (int which = 0; which < 7; which++) {
            Due.is("status " + which, x.status(which), due[which]);
            all += due[which];
        }
        Due.is("all", x.status(-1), all);
        Due.is("status 7", x.status(7), Due.BEYOND);
        Due.is("status -2", x.status(-2), Due.BEYOND);
        Due.is("these count", x.status(0), due[0] + 2);
        Due.is("all", x.status(-1), all + 2);
        x.text();
        x.now(5);
        Due.is("a fault is no finding", x.status(-1), all + 2);
        x.odds(9, 0, 0);
        Due.is("in longs, too", x.status(0), due[0] + 3);
    }
}
