/** Promises 22, 23 and 30 to 36: fits, kinds, hold, as, sheet, write, copy, load, judge. */
public final class SheetTest {
    public static void main(String[] args) {
        fits();
        kinds();
        hold();
        as();
        sheet();
        write();
        copy();
        copyFindings();
        load();
        judge();
        Due.end();
    }

    private static void fits() {
        LeftGloves x = Due.club("glove in 3 open 9;said 0 1 5 9;said 1 4 6 9");
        Due.is("no such sheet, before no such glove", x.fits(4, 9), Due.BEYOND);
        Due.is("sheet -1", x.fits(-1, 0), Due.BEYOND);
        Due.is("missing, before no such glove", x.fits(0, 9), Due.MISSING);
        Due.sheet(x, 0);
        Due.is("no such glove", x.fits(0, 1), Due.BEYOND);
        Due.is("glove -1", x.fits(0, -1), Due.BEYOND);
        Due.is("no numbers: all rooms", x.fits(0, 0), 63);
        Due.sheet(x, 0, 0);
        Due.is("knows nothing now: all rooms", x.fits(0, 0), 63);
        Due.sheet(x, 0, 1);
        Due.is("knows 0 now: no room", x.fits(0, 0), 0);
        Due.sheet(x, 0, -1, 32);
        Due.is("knows 5 behind a day: room 1", x.fits(0, 0), 2);
        Due.sheet(x, 0, 0, 0, 64);
        Due.is("knows 6 behind two days: room 4", x.fits(0, 0), 16);
        Due.sheet(x, 0, 0, 0, 0);
        Due.is("knows nothing behind two days", x.fits(0, 0), 63 - 2 - 16);
        Due.sheet(x, 0, -1, -1, -1);
        Due.is("any", x.fits(0, 0), 63);
        Due.sheet(x, 0, -2);
        Due.is("-2 is none", x.fits(0, 0), 0);
        Due.is("nothing changed", x.of(0, 1), 3);
        Due.is("no day went by", x.now(0), 0);
        Due.is("the sheet stays", x.judge(0), 1);
        x.change(0, 3, 65535);
        x.sheet(1, 16, 1);
        x.write(1, 0, 65535);
        Due.is("16 bits of 1 are -1: any", x.fits(1, 0), 63);
        x.change(0, 3, 40000);
        x.write(1, 0, 40000);
        Due.is("told with its sign it isn't so", x.fits(1, 0), 0);
        int[] long40 = new int[40];
        java.util.Arrays.fill(long40, -1);
        long40[39] = 65535;
        Due.sheet(x, 2, long40);
        Due.is("40 numbers", x.fits(2, 0), 0);
    }

    private static void kinds() {
        // Said 3 loud: kidskin (3 less 1 is 2) needs 0, glove 1, mitten 4, lady 0, double 0, stiff 0.
        LeftGloves x = Due.club("mitten open 9;said 0 0 5 3");
        Due.is("no such sheet", x.kinds(4, 9), Due.BEYOND);
        Due.is("sheet -1", x.kinds(-1, 0), Due.BEYOND);
        Due.is("missing", x.kinds(3, 9), Due.MISSING);
        Due.sheet(x, 3, -1, 32);
        Due.is("no such glove", x.kinds(3, 1), Due.BEYOND);
        Due.is("glove -1", x.kinds(3, -1), Due.BEYOND);
        Due.is("all that hear", x.kinds(3, 0), 127 - 4 - 16);
        Due.sheet(x, 3, 0, 0);
        Due.is("that don't", x.kinds(3, 0), 4 + 16);
        Due.sheet(x, 3);
        Due.is("all", x.kinds(3, 0), 127);
        Due.sheet(x, 3, -1, 32, -1, -1, -1, 0);
        Due.is("drawn on behind 5 days", x.kinds(3, 0), 2 + 64);
        Due.sheet(x, 3, -1, 32, -1, -1, -1, -1, -1, 0);
        Due.is("drawn on behind 7 days, or 5", x.kinds(3, 0), 1 + 2 + 64);
        Due.is("nothing changed", x.of(0, 0), 2);
    }

    private static void hold() {
        LeftGloves x = Due.club("glove;lady");
        Due.is("hold", x.hold(0, 1), 1);
        Due.is("hold in the last", x.hold(9, 0), 1);
        Due.is("held", x.count(7), 2);
        Due.is("as", x.as(0, 0), 1);
        Due.is("as", x.as(9, 0), 0);
        Due.is("hold nothing", x.hold(0, -1), 1);
        Due.is("held", x.count(7), 1);
        Due.is("as", x.as(0, 0), Due.MISSING);
        Due.is("spot -1", x.hold(-1, 0), Due.BEYOND);
        Due.is("spot 10", x.hold(10, 0), Due.BEYOND);
        Due.is("glove 2", x.hold(9, 2), Due.BEYOND);
        Due.is("glove -2", x.hold(9, -2), Due.BEYOND);
        Due.is("spot 10 and nothing", x.hold(10, -1), Due.BEYOND);
        Due.is("it holds what it held", x.as(9, 0), 0);
    }

    private static void as() {
        int[] above = {0b1, 0b11, 0b101, 0b1101, 0b11101, 0b100001, 0b1000011};
        LeftGloves x = new LeftGloves();
        for (int kind = 0; kind < 7; kind++) {
            x.glove(kind, 0);
            x.hold(kind, kind);
        }
        for (int glove = 0; glove < 7; glove++) {
            for (int kind = 0; kind < 7; kind++) {
                int due = (above[glove] >> kind & 1) == 1 ? glove : Due.KIND;
                Due.is(glove + " as " + kind, x.as(glove, kind), due);
            }
        }
        x.change(0, 0, 4);
        Due.is("of another kind since", x.as(0, 3), 0);
        Due.is("spot -1", x.as(-1, 0), Due.BEYOND);
        Due.is("spot 10", x.as(10, 0), Due.BEYOND);
        Due.is("kind -1, before it holds nothing", x.as(9, -1), Due.BEYOND);
        Due.is("kind 7, before it holds nothing", x.as(9, 7), Due.BEYOND);
        Due.is("nothing", x.as(9, 6), Due.MISSING);
    }

    private static void sheet() {
        LeftGloves x = new LeftGloves();
        Due.is("sheet", x.sheet(0, 8, 40), 40);
        Due.is("sheet of none", x.sheet(1, 16, 0), 0);
        Due.is("it isn't missing", x.judge(1), 0);
        Due.is("sheet -1", x.sheet(-1, 8, 1), Due.BEYOND);
        Due.is("sheet 4", x.sheet(4, 8, 1), Due.BEYOND);
        int[] bits = {-8, 1, 4, 7, 9, 12, 24, 31, 33, 64};
        for (int other : bits) {
            Due.is("bits " + other, x.sheet(0, other, -1), Due.BEYOND);
        }
        Due.is("below 0", x.sheet(0, 8, -1), Due.SIZE);
        Due.is("far below 0", x.sheet(0, 32, Integer.MIN_VALUE), Due.SIZE);
        Due.is("below 0 with bits 0", x.sheet(0, 0, -1), Due.SIZE);
        Due.is("above 40", x.sheet(0, 8, 41), Due.BEYOND);
        Due.is("above 40 with bits 0", x.sheet(0, 0, 41), Due.BEYOND);
        Due.is("far above 40", x.sheet(0, 32, Integer.MAX_VALUE), Due.BEYOND);
        Due.is("it stands as it stood", x.write(0, 39, 7), 1);
        Due.is("judge: 0 first", x.judge(0), 1);
        Due.is("bits 0", x.sheet(0, 0, 40), 0);
        Due.is("missing", x.write(0, 0, 1), Due.MISSING);
        Due.is("missing again", x.sheet(0, 0, 0), 0);
        Due.sheet(x, 2, 5, 6, 7);
        Due.is("laid out again", x.sheet(2, 32, 3), 3);
        Due.text(x, "glove;glove;glove");
        Due.is("all 0", x.judge(2), 0);
    }

    private static void write() {
        LeftGloves x = Due.club("glove;glove;glove;hand 0 127;hand 1 255;hand 2 32767");
        Due.is("sheet -1", x.write(-1, 0, 0), Due.BEYOND);
        Due.is("sheet 4", x.write(4, 0, 0), Due.BEYOND);
        Due.is("missing", x.write(0, 99, 0), Due.MISSING);
        x.sheet(0, 8, 2);
        Due.is("number -1", x.write(0, -1, 0), Due.BEYOND);
        Due.is("number 2", x.write(0, 2, 0), Due.BEYOND);
        Due.is("write", x.write(0, 0, 127 + 256), 1);
        Due.is("its lowest 8 bits", x.judge(0), 2);
        Due.is("write", x.write(0, 1, 255), 1);
        Due.is("255 is -1 of 8 bits", x.judge(0), 2);
        x.sheet(0, 16, 3);
        x.write(0, 0, 127 - 65536);
        x.write(0, 1, 255 + 65536);
        x.write(0, 2, 32767);
        Due.is("its lowest 16 bits", x.judge(0), 0);
        x.change(0, 5, 40000);
        x.write(0, 0, 40000);
        Due.is("40000 is below 0 of 16 bits", x.judge(0), 1);
        x.sheet(0, 32, 1);
        x.write(0, 0, 40000);
        Due.is("but not of 32", x.judge(0), 0);
        x.write(0, 0, 40000 + 65536);
        Due.is("all bits count", x.judge(0), 1);
    }

    private static void copy() {
        LeftGloves x = new LeftGloves();
        Due.sheet(x, 0, 1, 2, 3, 4, 5);
        Due.sheet(x, 1, 9, 9, 9);
        Due.is("copy", x.copy(0, 3, 1, 1, 2), 2);
        sheetIs(x, 1, 9, 4, 5);
        sheetIs(x, 0, 1, 2, 3, 4, 5);
        Due.is("onto itself, up", x.copy(0, 0, 0, 1, 4), 4);
        sheetIs(x, 0, 1, 1, 2, 3, 4);
        Due.is("onto itself, down", x.copy(0, 2, 0, 0, 3), 3);
        sheetIs(x, 0, 2, 3, 4, 3, 4);
        Due.is("none", x.copy(0, 5, 1, 3, 0), 0);
        Due.is("all", x.copy(1, 0, 1, 0, 3), 3);
        sheetIs(x, 1, 9, 4, 5);
        x.sheet(2, 8, 2);
        x.sheet(3, 8, 2);
        x.write(2, 0, 200);
        Due.is("of 8 bits", x.copy(2, 0, 3, 1, 1), 1);
        sheetIs(x, 3, 0, -56);
    }

    /** What a sheet tells is seen by the hands that it is judged by, or not to be seen so: by copies. */
    private static void sheetIs(LeftGloves x, int s, int... numbers) {
        LeftGloves y = x;
        for (int i = 0; i < numbers.length; i++) {
            while (y.count(1) <= i) {
                y.glove(0, 0);
            }
            if (numbers[i] >= 0) {
                y.change(i, 5, numbers[i]);
            }
        }
        int due = 0;
        for (int i = numbers.length - 1; i >= 0; i--) {
            if (numbers[i] < 0) {
                due = 1 + i;
            }
        }
        Due.is("sheet " + s, y.judge(s), due);
    }

    private static void copyFindings() {
        LeftGloves x = new LeftGloves();
        x.sheet(0, 8, 3);
        x.sheet(1, 16, 3);
        x.sheet(2, 8, 5);
        Due.is("sheet -1", x.copy(-1, 0, 0, 0, 0), Due.BEYOND);
        Due.is("sheet 4", x.copy(0, 0, 4, 0, 0), Due.BEYOND);
        Due.is("beyond before missing", x.copy(3, 0, 4, 0, 0), Due.BEYOND);
        Due.is("missing", x.copy(3, 0, 0, 0, 0), Due.MISSING);
        Due.is("missing, the other", x.copy(0, -1, 3, 0, 0), Due.MISSING);
        Due.is("bits before numbers", x.copy(0, -1, 1, 0, 99), Due.KIND);
        Due.is("from below 0", x.copy(0, -1, 2, 0, 1), Due.BEYOND);
        Due.is("to below 0", x.copy(0, 0, 2, -1, 1), Due.BEYOND);
        Due.is("n below 0", x.copy(0, 1, 2, 1, -1), Due.BEYOND);
        Due.is("not so many here", x.copy(0, 1, 2, 0, 3), Due.BEYOND);
        Due.is("not so many there", x.copy(2, 0, 0, 1, 3), Due.BEYOND);
        Due.is("none behind the end", x.copy(0, 4, 2, 0, 0), Due.BEYOND);
        Due.is("none behind the other end", x.copy(0, 3, 2, 6, 0), Due.BEYOND);
        Due.is("no wrap-around", x.copy(0, 1, 2, 1, Integer.MAX_VALUE), Due.BEYOND);
        Due.is("no wrap-around, from", x.copy(0, Integer.MAX_VALUE, 2, Integer.MAX_VALUE, 1), Due.BEYOND);
        Due.is("beyond", x.status(0), 12);
        Due.is("missing", x.status(5), 2);
        Due.is("kind", x.status(2), 1);
    }

    private static void load() {
        LeftGloves x = new LeftGloves();
        Due.is("sheet -1", x.load(-1), Due.BEYOND);
        Due.is("sheet 4", x.load(4), Due.BEYOND);
        Due.is("missing", x.load(0), Due.MISSING);
        Due.sheet(x, 0, 5159, 0, 160, 7);
        Due.is("till one is none", x.load(0), 2);
        int[] then = {5159, 0, 2025, 3035, 4045, 5055};
        for (int i = 0; i < 6; i++) {
            Due.is("said " + i, x.said(i), then[i]);
        }
        Due.sheet(x, 1, 1, 2, 3, 4, 5, 6, 7, 8);
        Due.is("till there is no place", x.load(1), 6);
        Due.is("the last place", x.said(5), 6);
        Due.sheet(x, 2);
        Due.is("none", x.load(2), 0);
        Due.sheet(x, 2, -1, 5);
        Due.is("the first is none", x.load(2), 0);
        Due.sheet(x, 2, 9);
        Due.is("all", x.load(2), 1);
        Due.is("the first", x.said(0), 9);
        Due.is("the second stays", x.said(1), 2);
    }

    private static void judge() {
        LeftGloves x = Due.club("glove;glove;glove;hand 0 4;hand 2 65535");
        Due.is("sheet -1", x.judge(-1), Due.BEYOND);
        Due.is("sheet 4", x.judge(4), Due.BEYOND);
        Due.is("missing", x.judge(0), Due.MISSING);
        Due.sheet(x, 0);
        Due.is("no numbers", x.judge(0), 0);
        Due.sheet(x, 0, 4, 0);
        Due.is("some", x.judge(0), 0);
        Due.sheet(x, 0, 4, 0, 65535);
        Due.is("all", x.judge(0), 0);
        Due.sheet(x, 0, 4, 0, 65535, 0);
        Due.is("more than there are", x.judge(0), 4);
        Due.sheet(x, 0, 5, 1);
        Due.is("the first", x.judge(0), 1);
        Due.sheet(x, 0, 4, 0, -1);
        Due.is("-1 is none here", x.judge(0), 3);
    }
}
