import java.util.function.ToLongFunction;

/** Boundary cases of promises 30 to 36, and of SPOTS and SHEETS in the Terms. */
public final class EdgesSheetTest {
    private static final int LEAST = Integer.MIN_VALUE;
    private static final int MOST = Integer.MAX_VALUE;

    public static void main(String[] args) {
        holdBounds();
        holdBeyond();
        asBounds();
        asFindings();
        sheetBounds();
        sheetFindings();
        writeSigns();
        writeFindings();
        copyBounds();
        copyOnItself();
        copyFindings();
        loadBounds();
        loadFindings();
        judgeBounds();
        judgeFindings();
        Due.end();
    }

    private static void holdBounds() {
        LeftGloves x = new LeftGloves();
        Due.is("Promise 30: nothing, where nothing is held, SPOT 0", x.hold(0, -1), 1);
        Due.is("Promise 30: nothing, where nothing is held, SPOT 9", x.hold(9, -1), 1);
        Due.is("Promise 30: no SPOT holds anything", x.count(7), 0);
        for (int glove = 0; glove < 8; glove++) {
            x.glove(0, 0);
        }
        Due.is("Promise 30: the first SPOT, the first GLOVE", x.hold(0, 0), 1);
        Due.is("Promise 30: the last SPOT, the last GLOVE", x.hold(9, 7), 1);
        Due.is("Promise 30: the first SPOT holds it", x.as(0, 0), 0);
        Due.is("Promise 30: the last SPOT holds it", x.as(9, 0), 7);
        Due.is("Promise 30: another GLOVE instead", x.hold(9, 0), 1);
        Due.is("Promise 30: two SPOTS hold the same GLOVE", x.as(9, 0) + x.as(0, 0), 0);
        for (int spot = 0; spot < 10; spot++) {
            x.hold(spot, 3);
        }
        Due.is("Promise 30: all ten SPOTS hold something", x.count(7), 10);
        x.hold(5, -1);
        Due.is("Promise 30: SPOT 5 holds nothing", x.as(5, 0), Due.MISSING);
        Due.is("Promise 30: nine SPOTS hold something", x.count(7), 9);
    }

    private static void holdBeyond() {
        int[] spots = {-1, 10, 11, LEAST, MOST};
        for (int spot : spots) {
            Refused.everywhere("Promise 30, BEYOND: SPOT " + spot, Due.BEYOND, c -> c.hold(spot, -1));
            Refused.is("Promise 30, BEYOND: SPOT " + spot + ", a GLOVE", Refused::some, Due.BEYOND, c -> c.hold(spot, 0));
        }
        int[] gloves = {-2, 8, 9, LEAST, MOST};
        for (int glove : gloves) {
            Refused.everywhere("Promise 30, BEYOND: GLOVE " + glove, Due.BEYOND, c -> c.hold(0, glove));
        }
        Refused.is("Promise 30, BEYOND: there are no GLOVES", LeftGloves::new, Due.BEYOND, c -> c.hold(0, 0));
        Refused.is("Promise 30, BEYOND: four GLOVES, number 4", Refused::some, Due.BEYOND, c -> c.hold(0, 4));
    }

    private static void asBounds() {
        boolean[][] under = new boolean[7][7];
        int[][] pairs = {{1, 0}, {2, 0}, {5, 0}, {3, 2}, {3, 0}, {4, 3}, {4, 2}, {4, 0}, {6, 1}, {6, 0}};
        for (int[] pair : pairs) {
            under[pair[0]][pair[1]] = true;
        }
        LeftGloves x = new LeftGloves();
        for (int glove = 0; glove < 8; glove++) {
            x.glove(0, 0);
        }
        x.hold(9, 7);
        for (int own = 0; own < 7; own++) {
            x.change(7, 0, own);
            for (int kind = 0; kind < 7; kind++) {
                Due.is("Promise 31: KIND " + own + " as one of " + kind, x.as(9, kind), own == kind || under[own][kind] ? 7 : Due.KIND);
            }
        }
        Due.is("Promise 31, KIND: counted", x.status(2), 49 - 7 - pairs.length);
        Due.is("Promise 31: no other findings", x.status(-1), x.status(2));
    }

    private static LeftGloves held() {
        LeftGloves x = Refused.some();
        x.hold(3, 0);
        return x;
    }

    private static void asFindings() {
        int[] spots = {-1, 10, 11, LEAST, MOST};
        for (int spot : spots) {
            Refused.everywhere("Promise 31, BEYOND: SPOT " + spot, Due.BEYOND, c -> c.as(spot, 0));
        }
        int[] kinds = {-1, 7, 8, LEAST, MOST};
        for (int kind : kinds) {
            Refused.everywhere("Promise 31, BEYOND: KIND " + kind, Due.BEYOND, c -> c.as(0, kind));
            Refused.is("Promise 31: BEYOND is asked ahead of MISSING, KIND " + kind, Refused::some, Due.BEYOND, c -> c.as(1, kind));
        }
        for (int kind = 0; kind < 7; kind++) {
            int asked = kind;
            Refused.is("Promise 31, MISSING: it holds nothing", LeftGloves::new, Due.MISSING, c -> c.as(9, asked));
            Refused.is("Promise 31: MISSING is asked ahead of KIND", Refused::some, Due.MISSING, c -> c.as(8, asked));
            if (kind > 0) {
                Refused.is("Promise 31, KIND: a GLOVE as " + kind, EdgesSheetTest::held, Due.KIND, c -> c.as(3, asked));
            }
        }
    }

    private static void sheetBounds() {
        int[] bits = {8, 16, 32};
        for (int s = 0; s < 4; s++) {
            for (int each : bits) {
                LeftGloves x = new LeftGloves();
                Due.is("Promise 32: 40 numbers, sheet " + s + ", bits " + each, x.sheet(s, each, 40), 40);
                Due.is("Promise 32: number 39 is there", x.write(s, 39, 1), 1);
                Due.is("Promise 32: number 40 isn't", x.write(s, 40, 1), Due.BEYOND);
                Due.is("Promise 32: 0 numbers", x.sheet(s, each, 0), 0);
                Due.is("Promise 32: number 0 isn't there, but the sheet is", x.write(s, 0, 1), Due.BEYOND);
                Due.is("Promise 32: no numbers are all so", x.judge(s), 0);
                Due.is("Promise 32: 1 number", x.sheet(s, each, 1), 1);
                Due.is("Promise 32: 0 with bits 0 and n 40: it is MISSING", x.sheet(s, 0, 40), 0);
                Due.is("Promise 32: it is MISSING", x.write(s, 0, 1), Due.MISSING);
                Due.is("Promise 32: bits 0 again, n 0", x.sheet(s, 0, 0), 0);
                Due.is("Promise 32: it is MISSING still", x.judge(s), Due.MISSING);
                Due.is("Promise 32: other sheets are MISSING", x.judge((s + 1) % 4), Due.MISSING);
            }
        }
        LeftGloves y = new LeftGloves();
        y.glove(0, 0);
        Due.sheet(y, 1, 7, 7, 7);
        y.sheet(1, 32, 1);
        Due.is("Promise 32: all 0, fewer than before", y.judge(1), 0);
        y.sheet(1, 32, 3);
        Due.is("Promise 32: all 0, more than before: the 2nd has no GLOVE", y.judge(1), 2);
        y.glove(0, 0);
        y.glove(0, 0);
        Due.is("Promise 32: all 0, nothing is left of what they were", y.judge(1), 0);
        Due.sheet(y, 1, 7, 7, 7);
        y.sheet(1, 0, 3);
        y.sheet(1, 8, 3);
        Due.is("Promise 32: all 0, behind MISSING", y.judge(1), 0);
    }

    private static void sheetFindings() {
        int[] sheets = {-1, 4, 5, LEAST, MOST};
        for (int s : sheets) {
            Refused.everywhere("Promise 32, BEYOND: no such sheet, " + s, Due.BEYOND, c -> c.sheet(s, 8, 1));
            Refused.is("Promise 32: BEYOND of the sheet ahead of SIZE, " + s, Refused::some, Due.BEYOND, c -> c.sheet(s, 8, -1));
        }
        int[] others = {-1, 1, 7, 9, 15, 17, 24, 31, 33, 64, -8, LEAST, MOST};
        for (int bits : others) {
            Refused.everywhere("Promise 32, BEYOND: bits " + bits, Due.BEYOND, c -> c.sheet(0, bits, 1));
            Refused.is("Promise 32: BEYOND of bits ahead of SIZE, " + bits, Refused::some, Due.BEYOND, c -> c.sheet(1, bits, -1));
        }
        int[] bits = {0, 8, 16, 32};
        for (int each : bits) {
            Refused.everywhere("Promise 32, SIZE: n -1, bits " + each, Due.SIZE, c -> c.sheet(0, each, -1));
            Refused.is("Promise 32, SIZE: n far below 0, bits " + each, Refused::some, Due.SIZE, c -> c.sheet(2, each, LEAST));
            Refused.everywhere("Promise 32, BEYOND: n 41, bits " + each, Due.BEYOND, c -> c.sheet(0, each, 41));
            Refused.is("Promise 32, BEYOND: n far above 40, bits " + each, Refused::some, Due.BEYOND, c -> c.sheet(2, each, MOST));
        }
    }

    /** A number is seen by load(): it becomes a SAYING if it is one; and by judge(): a HAND KNOWS it. */
    private static void number(String told, int bits, int v, int due) {
        LeftGloves x = new LeftGloves();
        x.glove(0, 0);
        x.sheet(2, bits, 1);
        Due.is("Promise 33: " + told, x.write(2, 0, v), 1);
        boolean set = due >= 0 && due <= 65535;
        x.change(0, 5, set ? due : 0);
        Due.is("Promise 33: " + told + " of " + bits + " bits is " + due, x.judge(2), set ? 0 : 1);
        x.change(0, 3, set ? due : 0);
        Due.is("Promise 33: " + told + " of " + bits + " bits, any", x.fits(2, 0), set || due == -1 ? 63 : 0);
    }

    private static void writeSigns() {
        number("0", 8, 0, 0);
        number("127", 8, 127, 127);
        number("128, with its sign", 8, 128, -128);
        number("255, with its sign", 8, 255, -1);
        number("256, its lowest bits", 8, 256, 0);
        number("257, its lowest bits", 8, 257, 1);
        number("-1", 8, -1, -1);
        number("-129, its lowest bits", 8, -129, 127);
        number("-255, its lowest bits", 8, -255, 1);
        number("the least", 8, LEAST, 0);
        number("32767", 16, 32767, 32767);
        number("32768, with its sign", 16, 32768, -32768);
        number("65535, with its sign", 16, 65535, -1);
        number("65536, its lowest bits", 16, 65536, 0);
        number("-32769, its lowest bits", 16, -32769, 32767);
        number("the greatest", 16, MOST, -1);
        number("65535", 32, 65535, 65535);
        number("-1", 32, -1, -1);
        number("65536", 32, 65536, 65536);
        number("the least", 32, LEAST, LEAST);
        LeftGloves x = new LeftGloves();
        x.sheet(0, 16, 2);
        x.write(0, 0, 5159 + 65536);
        x.write(0, 1, 5159 - 65536);
        Due.is("Promise 33: lowest bits of 16 are SAYINGS", x.load(0), 2);
        Due.is("Promise 33: 5159", x.said(0) + x.said(1), 10318);
        x.sheet(0, 8, 1);
        x.write(0, 0, 5159);
        Due.is("Promise 33: lowest bits of 8", x.load(0), 1);
        Due.is("Promise 33: 5159 of 8 bits is 39", x.said(0), 39);
    }

    private interface OfSheet {
        ToLongFunction<LeftGloves> of(int s);
    }

    private static void noSheet(String promise, OfSheet call) {
        int[] sheets = {-1, 4, 5, LEAST, MOST};
        for (int s : sheets) {
            Refused.everywhere(promise + ", BEYOND: no such sheet, " + s, Due.BEYOND, call.of(s));
        }
        for (int s = 0; s < 4; s++) {
            Refused.is(promise + ", MISSING: sheet " + s, LeftGloves::new, Due.MISSING, call.of(s));
        }
        Refused.is(promise + ", MISSING: sheet 3", Refused::some, Due.MISSING, call.of(3));
    }

    private static void writeFindings() {
        noSheet("Promise 33", s -> c -> c.write(s, 0, 1));
        noSheet("Promise 33: ahead of BEYOND of the number", s -> c -> c.write(s, -1, 1));
        int[] numbers = {-1, 40, 41, LEAST, MOST};
        for (int i : numbers) {
            Refused.is("Promise 33, BEYOND: no such number of 40, " + i, Refused::full, Due.BEYOND, c -> c.write(3, i, 1));
            Refused.is("Promise 33, BEYOND: no such number of 3, " + i, Refused::some, Due.BEYOND, c -> c.write(0, i, 1));
        }
        Refused.is("Promise 33, BEYOND: number 3 of 3", Refused::some, Due.BEYOND, c -> c.write(0, 3, 1));
        LeftGloves x = Refused.full();
        Due.is("Promise 33: the last number of the last sheet", x.write(3, 39, 5), 1);
        Due.is("Promise 33: the first number of the first sheet", x.write(0, 0, 5), 1);
    }

    /** Whether numbers of a sheet are these, seen by HANDS of as many GLOVES. */
    private static void are(String told, LeftGloves x, int s, int... numbers) {
        for (int i = 0; i < numbers.length; i++) {
            if (x.count(1) <= i) {
                x.glove(0, 0);
            }
            x.change(i, 5, numbers[i]);
        }
        Due.is(told, x.judge(s), 0);
        Due.is(told + ": how many", x.copy(s, numbers.length, s, numbers.length, 0), 0);
        Due.is(told + ": no more", x.copy(s, 0, s, 0, numbers.length + 1), Due.BEYOND);
    }

    private static void copyBounds() {
        LeftGloves x = new LeftGloves();
        Due.sheet(x, 0, 1, 2, 3, 4, 5);
        Due.sheet(x, 3, 6, 7, 8);
        Due.is("Promise 34: none, from the begin", x.copy(0, 0, 3, 0, 0), 0);
        Due.is("Promise 34: none, from the end to the end", x.copy(0, 5, 3, 3, 0), 0);
        are("Promise 34: none came", x, 3, 6, 7, 8);
        Due.is("Promise 34: all of the lesser one", x.copy(0, 2, 3, 0, 3), 3);
        are("Promise 34: from the third on to the end", x, 3, 3, 4, 5);
        are("Promise 34: the first one stays", x, 0, 1, 2, 3, 4, 5);
        Due.is("Promise 34: the last to the last", x.copy(3, 2, 0, 4, 1), 1);
        Due.is("Promise 34: the first to the last", x.copy(0, 0, 3, 2, 1), 1);
        are("Promise 34: the last is 1 then", x, 3, 3, 4, 1);
        LeftGloves y = Refused.full();
        Due.is("Promise 34: 40 numbers", y.copy(2, 0, 3, 0, 40), 40);
        y.sheet(2, 32, 40);
        Due.is("Promise 34: 40 numbers, all 0", y.copy(2, 0, 3, 0, 40), 40);
        y.change(0, 5, 0);
        Due.is("Promise 34: 40 numbers, all 0, number 1 isn't so", y.judge(3), 2);
        LeftGloves z = new LeftGloves();
        z.sheet(0, 8, 0);
        z.sheet(1, 8, 0);
        Due.is("Promise 34: none of none", z.copy(0, 0, 1, 0, 0), 0);
        Due.is("Promise 34, BEYOND: one of none", z.copy(0, 0, 1, 0, 1), Due.BEYOND);
    }

    private static void copyOnItself() {
        LeftGloves x = new LeftGloves();
        Due.sheet(x, 1, 1, 2, 3, 4, 5);
        Due.is("Promise 34: as they all were, one on", x.copy(1, 0, 1, 1, 4), 4);
        are("Promise 34: as they all were, one on", x, 1, 1, 1, 2, 3, 4);
        Due.is("Promise 34: as they all were, one back", x.copy(1, 1, 1, 0, 4), 4);
        are("Promise 34: as they all were, one back", x, 1, 1, 2, 3, 4, 4);
        Due.is("Promise 34: onto its own place", x.copy(1, 0, 1, 0, 5), 5);
        are("Promise 34: onto its own place", x, 1, 1, 2, 3, 4, 4);
        Due.is("Promise 34: as they all were, two on", x.copy(1, 0, 1, 2, 3), 3);
        are("Promise 34: as they all were, two on", x, 1, 1, 2, 1, 2, 3);
    }

    private static LeftGloves sheets() {
        LeftGloves x = Refused.some();
        x.sheet(3, 8, 5);
        return x;
    }

    private static void copyRefused(String told, int finding, ToLongFunction<LeftGloves> call) {
        Refused.is("Promise 34, " + told, EdgesSheetTest::sheets, finding, call);
    }

    private static void copyFindings() {
        noSheet("Promise 34", s -> c -> c.copy(s, 0, 0, 0, 0));
        noSheet("Promise 34, the other", s -> c -> c.copy(0, 0, s, 0, 0));
        Refused.is("Promise 34: BEYOND of the other sheet ahead of MISSING", Refused::some, Due.BEYOND, c -> c.copy(3, 0, 4, 0, 0));
        Refused.is("Promise 34: BEYOND of a sheet ahead of MISSING", Refused::some, Due.BEYOND, c -> c.copy(-1, 0, 3, 0, 0));
        Refused.is("Promise 34: MISSING ahead of BEYOND of numbers", Refused::some, Due.MISSING, c -> c.copy(3, -1, 0, -1, -1));
        Refused.is("Promise 34: MISSING, the other, likewise", Refused::some, Due.MISSING, c -> c.copy(0, -1, 3, -1, -1));
        copyRefused("KIND: 8 and 16 bits", Due.KIND, c -> c.copy(0, 0, 1, 0, 0));
        copyRefused("KIND: 16 and 32 bits", Due.KIND, c -> c.copy(1, 0, 2, 0, 1));
        copyRefused("KIND: 32 and 8 bits", Due.KIND, c -> c.copy(2, 0, 0, 0, 1));
        copyRefused("KIND ahead of BEYOND of numbers", Due.KIND, c -> c.copy(0, -1, 1, 99, -1));
        copyRefused("BEYOND: from is below 0", Due.BEYOND, c -> c.copy(0, -1, 3, 0, 1));
        copyRefused("BEYOND: from is below 0, none", Due.BEYOND, c -> c.copy(0, -1, 3, 0, 0));
        copyRefused("BEYOND: to is below 0", Due.BEYOND, c -> c.copy(0, 0, 3, -1, 1));
        copyRefused("BEYOND: to is below 0, none", Due.BEYOND, c -> c.copy(0, 0, 3, -1, 0));
        copyRefused("BEYOND: n is below 0", Due.BEYOND, c -> c.copy(0, 1, 3, 1, -1));
        copyRefused("BEYOND: n is far below 0", Due.BEYOND, c -> c.copy(0, 1, 3, 1, LEAST));
        copyRefused("BEYOND: one has 3, not 4", Due.BEYOND, c -> c.copy(0, 0, 3, 0, 4));
        copyRefused("BEYOND: one has 3, not 2 from 2 on", Due.BEYOND, c -> c.copy(0, 2, 3, 0, 2));
        copyRefused("BEYOND: the other one has 3, not 4", Due.BEYOND, c -> c.copy(3, 0, 0, 0, 4));
        copyRefused("BEYOND: the other one has 5, not 1 from 5 on", Due.BEYOND, c -> c.copy(0, 0, 3, 5, 1));
        copyRefused("BEYOND: the other one has 5, not 3 from 3 on", Due.BEYOND, c -> c.copy(0, 0, 3, 3, 3));
        copyRefused("BEYOND: none from behind the end on", Due.BEYOND, c -> c.copy(0, 4, 3, 0, 0));
        copyRefused("BEYOND: none to behind the end", Due.BEYOND, c -> c.copy(0, 0, 3, 6, 0));
        copyRefused("BEYOND: from and n as great as can be", Due.BEYOND, c -> c.copy(0, MOST, 3, 0, MOST));
        copyRefused("BEYOND: from and n wrap around", Due.BEYOND, c -> c.copy(0, MOST, 3, 0, 1));
        copyRefused("BEYOND: to and n wrap around", Due.BEYOND, c -> c.copy(0, 1, 3, MOST, 1));
        copyRefused("BEYOND: n as great as can be", Due.BEYOND, c -> c.copy(0, 1, 3, 1, MOST));
        copyRefused("BEYOND: onto itself, one too many", Due.BEYOND, c -> c.copy(0, 0, 0, 1, 3));
    }

    private static void loadBounds() {
        LeftGloves x = new LeftGloves();
        x.sheet(0, 32, 0);
        Due.is("Promise 35: no numbers", x.load(0), 0);
        Due.sheet(x, 0, 5159, 0, 1, 2, 3, 4);
        Due.is("Promise 35: six numbers", x.load(0), 6);
        int[] six = {5159, 0, 1, 2, 3, 4};
        for (int i = 0; i < 6; i++) {
            Due.is("Promise 35: place " + i, x.said(i), six[i]);
        }
        Due.sheet(x, 0, 9, 8, 7, 6, 5, 4, 3);
        Due.is("Promise 35: for the seventh there is no place", x.load(0), 6);
        Due.is("Promise 35: the first and the last place", x.said(0) * 10 + x.said(5), 94);
        int[] none = {-1, 160, 999, 1160, 5160, 6000, LEAST, MOST};
        for (int number : none) {
            LeftGloves y = new LeftGloves();
            Due.sheet(y, 3, number, 7);
            Due.is("Promise 35: it ends at the first, " + number, y.load(3), 0);
            Due.is("Promise 35: place 0 stays", y.said(0), 5);
            Due.is("Promise 35: place 1 stays", y.said(1), 1015);
            Due.sheet(y, 3, 1, 2, 3, 4, 5, number, 6);
            Due.is("Promise 35: it ends at the sixth, " + number, y.load(3), 5);
            Due.is("Promise 35: place 4 came", y.said(4), 5);
            Due.is("Promise 35: place 5 stays", y.said(5), 5055);
            Due.is("Promise 35: no finding", y.status(-1), 0);
        }
        x.sheet(1, 16, 40);
        Due.is("Promise 35: 40 numbers, all 0", x.load(1), 6);
        Due.is("Promise 35: 0 is a SAYING", x.said(5), 0);
    }

    private static void loadFindings() {
        noSheet("Promise 35", s -> c -> c.load(s));
    }

    private static void judgeBounds() {
        LeftGloves x = new LeftGloves();
        x.sheet(3, 8, 0);
        Due.is("Promise 36: no numbers, no GLOVES: so", x.judge(3), 0);
        x.sheet(3, 8, 1);
        Due.is("Promise 36: there is no GLOVE 0: 1 and place 0", x.judge(3), 1);
        for (int glove = 0; glove < 8; glove++) {
            x.glove(0, 0);
            x.change(glove, 5, 65535 - glove);
        }
        Due.sheet(x, 0, 65535, 65534, 65533, 65532, 65531, 65530, 65529, 65528);
        Due.is("Promise 36: eight numbers, all so", x.judge(0), 0);
        x.write(0, 7, 65527);
        Due.is("Promise 36: the last isn't so: 1 and place 7", x.judge(0), 8);
        x.write(0, 0, -1);
        Due.is("Promise 36: the first that isn't so", x.judge(0), 1);
        Due.sheet(x, 0, 65535);
        Due.is("Promise 36: fewer numbers than GLOVES: so", x.judge(0), 0);
        Due.sheet(x, 0, 65535, 65534, 65533, 65532, 65531, 65530, 65529, 65528, 0);
        Due.is("Promise 36: there is no GLOVE 8: 1 and place 8", x.judge(0), 9);
        x.change(2, 3, 65535);
        x.change(2, 5, 0);
        Due.is("Promise 36: HANDS, not GLOVES: 1 and place 2", x.judge(0), 3);
        Due.is("Promise 36: no finding", x.status(-1), 0);
        LeftGloves y = Refused.full();
        Due.is("Promise 36: 40 numbers, eight GLOVES: 1 and place 8", y.judge(3), 9);
    }

    private static void judgeFindings() {
        noSheet("Promise 36", s -> c -> c.judge(s));
    }
}
