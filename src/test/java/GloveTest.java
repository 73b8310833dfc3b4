/** Promises 5 to 9: glove, of, change, draw, who. */
public final class GloveTest {
    public static void main(String[] args) {
        glove();
        kindsByTable();
        needs();
        hushes();
        change();
        draw();
        who();
        Due.end();
    }

    private static void glove() {
        LeftGloves x = new LeftGloves();
        Due.is("kind -1", x.glove(-1, 0), Due.BEYOND);
        Due.is("kind 7", x.glove(7, 0), Due.BEYOND);
        Due.is("room -1", x.glove(0, -1), Due.BEYOND);
        Due.is("room 6", x.glove(0, 6), Due.BEYOND);
        Due.is("no glove came", x.count(1), 0);
        for (int i = 0; i < 8; i++) {
            Due.is("glove " + i, x.glove(i % 7, i % 6), i);
        }
        Due.is("a ninth", x.glove(0, 0), Due.FULL);
        Due.is("a ninth of no kind", x.glove(7, 0), Due.BEYOND);
        Due.is("a ninth in no room", x.glove(0, 6), Due.BEYOND);
        Due.is("eight", x.count(1), 8);
        int[] first = {6, 0, 5, 0, 0, 0, 0};
        for (int what = 0; what < 7; what++) {
            Due.is("of 6 " + what, x.of(6, what), first[what]);
        }
        Due.is("room of 7", x.of(7, 1), 1);
        Due.is("of -1", x.of(-1, 0), Due.BEYOND);
        Due.is("of 8", x.of(8, 0), Due.BEYOND);
        Due.is("of what -1", x.of(0, -1), Due.BEYOND);
        Due.is("of what 11", x.of(0, 11), Due.BEYOND);
        Due.is("a glove after undo is new", freshAfterUndo(), 0);
    }

    private static int freshAfterUndo() {
        LeftGloves x = new LeftGloves();
        x.image();
        x.glove(1, 1);
        for (int what = 2; what < 7; what++) {
            x.change(0, what, 9);
        }
        x.undo();
        x.glove(2, 2);
        return x.of(0, 0) - 2 + x.of(0, 1) - 2 + x.of(0, 2) - 5 + x.of(0, 3) + x.of(0, 4) + x.of(0, 5) + x.of(0, 6);
    }

    private static void kindsByTable() {
        int[] stays = {7, 5, 14, 14, 0, 0, 5};
        int[] keeps = {6, 8, 3, 3, 3, 16, 10};
        for (int kind = 0; kind < 7; kind++) {
            LeftGloves x = new LeftGloves();
            x.glove(kind, 0);
            Due.is("stays " + kind, x.of(0, 9), stays[kind]);
            Due.is("keeps " + kind, x.of(0, 10), keeps[kind]);
        }
    }

    private static void needs() {
        int[][] needs = {
            {10, 9, 8, 7, 6, 5, 4, 3, 2, 1},
            {8, 7, 6, 5, 4, 3, 2, 1, 0, 0},
            {13, 12, 11, 10, 9, 8, 7, 6, 5, 4},
            {9, 8, 7, 6, 5, 4, 3, 2, 1, 0},
            {99, 99, 99, 99, 99, 99, 99, 99, 99, 99},
            {0, 0, 0, 0, 0, 0, 0, 0, 0, 0},
            {8, 7, 6, 5, 4, 3, 2, 1, 0, 0}};
        for (int kind = 0; kind < 7; kind++) {
            LeftGloves x = new LeftGloves();
            x.glove(kind, 3);
            x.glove(4, 2);
            for (int open = 0; open < 10; open++) {
                x.change(0, 2, open);
                x.change(1, 1, 2);
                Due.is("needs alone " + kind + " " + open, x.of(0, 7), needs[kind][open]);
                x.change(1, 1, 3);
                Due.is("needs in company " + kind + " " + open, x.of(0, 7), kind == 6 ? 1 : needs[kind][open]);
            }
        }
    }

    private static void hushes() {
        int[] young = {0, 1, 0, 1, 0, 0, 2};
        int[] old = {0, 1, 0, 1, 0, 1, 2};
        for (int kind = 0; kind < 7; kind++) {
            LeftGloves x = new LeftGloves();
            x.glove(kind, 0);
            x.change(0, 4, 99);
            Due.is("hushes behind 99 days " + kind, x.of(0, 8), young[kind]);
            x.change(0, 4, 100);
            Due.is("hushes behind 100 days " + kind, x.of(0, 8), old[kind]);
            x.change(0, 4, 9999);
            Due.is("hushes behind 9999 days " + kind, x.of(0, 8), old[kind]);
        }
    }

    private static void change() {
        int[] most = {6, 5, 9, 65535, 9999, 65535, 9999};
        int[] first = {0, 4, 5, 0, 0, 0, 0};
        LeftGloves x = new LeftGloves();
        x.glove(1, 1);
        x.glove(0, 4);
        for (int what = 0; what < 7; what++) {
            Due.is("change " + what, x.change(1, what, most[what]), first[what]);
            Due.is("change above " + what, x.change(1, what, most[what] + 1), Due.BEYOND);
            Due.is("change below " + what, x.change(1, what, -1), Due.BEYOND);
            Due.is("changed " + what, x.of(1, what), most[what]);
            Due.is("change back " + what, x.change(1, what, 0), most[what]);
            Due.is("changed back " + what, x.of(1, what), 0);
        }
        Due.is("the other stays", x.of(0, 0), 1);
        Due.is("change what -1", x.change(0, -1, 0), Due.BEYOND);
        Due.is("change what 7", x.change(0, 7, 0), Due.BEYOND);
        Due.is("change what 10", x.change(0, 10, 0), Due.BEYOND);
        Due.is("change of 2", x.change(2, 0, 0), Due.BEYOND);
        Due.is("change of -1", x.change(-1, 0, 0), Due.BEYOND);
        x.change(0, 3, 65535);
        x.change(0, 0, 2);
        Due.is("what it knows isn't less by its kind", x.of(0, 3), 65535);
    }

    private static void draw() {
        LeftGloves x = Due.club("mitten in 5 open 3 knows 5 lies 12;burnt;stiff;lady in 2;hand 0 10");
        Due.is("draw", x.draw(0), 15);
        int[] then = {2, 0, 3, 0, 0, 15, 1};
        for (int what = 0; what < 7; what++) {
            Due.is("drawn on " + what, x.of(0, what), then[what]);
        }
        Due.is("no day goes by", x.now(0), 0);
        Due.is("draw of a burnt one", x.draw(1), Due.STATE);
        Due.is("draw of a stiff one", x.draw(2), Due.STATE);
        Due.is("not drawn", x.of(1, 6) + x.of(2, 6), 0);
        Due.is("draw of none", x.draw(4), Due.BEYOND);
        Due.is("draw of -1", x.draw(-1), Due.BEYOND);
        Due.is("draw of an empty one", x.draw(3), 0);
        Due.is("the next room", x.of(3, 1), 3);
        x.change(3, 6, 9999);
        x.draw(3);
        Due.is("drawn 9999 at most", x.of(3, 6), 9999);
    }

    private static void who() {
        LeftGloves x = Due.club("glove knows 32769;lady knows 1;stiff;hand 2 32768;hand 1 32768");
        Due.is("who knows 0", x.who(0, 0), 3);
        Due.is("who knows 15", x.who(15, 0), 1);
        Due.is("whose hand knows 15", x.who(15, 1), 6);
        Due.is("whose hand knows 0", x.who(0, 1), 0);
        x.change(0, 5, 32768);
        Due.is("whose hand knows 15, all", x.who(15, 1), 7);
        Due.is("who -1", x.who(-1, 0), Due.BEYOND);
        Due.is("who 16", x.who(16, 0), Due.BEYOND);
        Due.is("who hand -1", x.who(0, -1), Due.BEYOND);
        Due.is("who hand 2", x.who(0, 2), Due.BEYOND);
    }
}
