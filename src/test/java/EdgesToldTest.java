import java.util.function.ToLongFunction;

/** Boundary cases of promises 22 to 26, and of DRAWS in the Terms. */
public final class EdgesToldTest {
    private static final int LEAST = Integer.MIN_VALUE;
    private static final int MOST = Integer.MAX_VALUE;

    public static void main(String[] args) {
        fitsBounds();
        fitsAny();
        fitsSigns();
        fortyNumbers();
        kindsBounds();
        toldFindings();
        draws();
        talkBounds();
        talkBeyond();
        oddsBounds();
        oddsBeyond();
        seed();
        Due.end();
    }

    private static LeftGloves silentOne(int kind, int room, int open) {
        LeftGloves x = new LeftGloves();
        for (int i = 0; i < 6; i++) {
            x.say(i, 5000);
        }
        x.glove(kind, room);
        x.change(0, 2, open);
        return x;
    }

    /** A sheet of 32 bits: that, and no check of each number. */
    private static LeftGloves told(LeftGloves x, int... numbers) {
        x.sheet(3, 32, numbers.length);
        for (int i = 0; i < numbers.length; i++) {
            x.write(3, i, numbers[i]);
        }
        return x;
    }

    private static void fitsBounds() {
        LeftGloves x = silentOne(0, 3, 9);
        Due.is("Promise 22: no numbers: all ROOMS", told(x).fits(3, 0), 63);
        Due.is("Promise 22: it KNOWS nothing now: all ROOMS", told(x, 0).fits(3, 0), 63);
        Due.is("Promise 22: it doesn't KNOW TOPIC 0 now: no ROOM", told(x, 1).fits(3, 0), 0);
        Due.is("Promise 22: no finding, though no ROOM fits", x.status(-1), 0);
        x.say(0, 9);
        x.say(1, 5159);
        Due.is("Promise 22: ROOM 0, the first", told(x, 0, 1).fits(3, 0), 1);
        Due.is("Promise 22: ROOM 5, the last", told(x, 0, 0, 32768).fits(3, 0), 32);
        Due.is("Promise 22: the others", told(x, 0, 0, 0).fits(3, 0), 30);
        Due.is("Promise 22: all numbers must be so", told(x, 0, 1, 32768).fits(3, 0), 0);
        Due.is("Promise 22: the last number counts", told(x, 0, 1, 0).fits(3, 0), 0);
        Due.is("Promise 22: the first number counts", told(x, 2, 1, 1).fits(3, 0), 0);
        Due.is("Promise 22: nothing changes", x.of(0, 1) * 10 + x.now(0), 30);
        x.change(0, 3, 65535);
        Due.is("Promise 22: it KNOWS all", told(x, 65535).fits(3, 0), 63);
    }

    private static void fitsAny() {
        LeftGloves x = silentOne(0, 3, 9);
        x.change(0, 3, 5);
        Due.is("Promise 22: -1: any", told(x, -1).fits(3, 0), 63);
        Due.is("Promise 22: -1: any, and what it KNOWS behind a DAY", told(x, -1, 5).fits(3, 0), 63);
        Due.is("Promise 22: -1: any, and what it doesn't KNOW", told(x, -1, 4).fits(3, 0), 0);
        int[] none = {-2, -5, 65536 + 5, 65536, LEAST, MOST};
        for (int number : none) {
            Due.is("Promise 22: no set is " + number, told(x, number).fits(3, 0), 0);
            Due.is("Promise 23: no set is " + number, told(x, number).kinds(3, 0), 0);
        }
    }

    private static void fitsSigns() {
        int[] bits = {8, 16, 32};
        int[] greatest = {127, 32767, 65535};
        for (int i = 0; i < 3; i++) {
            LeftGloves x = silentOne(0, 3, 9);
            x.change(0, 3, greatest[i]);
            x.sheet(0, bits[i], 1);
            x.write(0, 0, greatest[i]);
            Due.is("Promise 22: the greatest of " + bits[i] + " bits", x.fits(0, 0), 63);
            x.write(0, 0, -1);
            Due.is("Promise 22: -1 of " + bits[i] + " bits: any", x.fits(0, 0), 63);
            if (bits[i] < 32) {
                x.write(0, 0, (1 << bits[i]) - 1);
                Due.is("Promise 22: all of " + bits[i] + " bits is -1: any", x.fits(0, 0), 63);
                x.change(0, 3, greatest[i] + 1);
                x.write(0, 0, greatest[i] + 1);
                Due.is("Promise 22: 1 more is below 0 of " + bits[i] + " bits", x.fits(0, 0), 0);
                Due.is("Promise 23: 1 more is below 0 of " + bits[i] + " bits", x.kinds(0, 0), 0);
            }
        }
    }

    private static void fortyNumbers() {
        // With fingers half open none hears LOUD 0 but a STIFF one, and that never comes to ROOM 5.
        LeftGloves y = silentOne(0, 4, 5);
        y.change(0, 3, 6);
        int[] numbers = new int[40];
        for (int i = 0; i < 40; i++) {
            numbers[i] = i < 7 ? 6 : 0;
        }
        Due.is("Promise 22: 40 numbers, all so", told(y, numbers).fits(3, 0), 63);
        Due.is("Promise 23: 40 numbers, all so of a GLOVE alone", y.kinds(3, 0), 1);
        numbers[39] = 6;
        Due.is("Promise 22: number 39 isn't so", told(y, numbers).fits(3, 0), 0);
        Due.is("Promise 23: number 39 isn't so", y.kinds(3, 0), 0);
        numbers[39] = -1;
        Due.is("Promise 22: number 39 is any", told(y, numbers).fits(3, 0), 63);
        java.util.Arrays.fill(numbers, -1);
        numbers[39] = 6;
        Due.is("Promise 23: behind 39 DAYS BURNT and STIFF ones KNOW it still", told(y, numbers).kinds(3, 0), 48);
        numbers[39] = 0;
        Due.is("Promise 23: behind 39 DAYS all others KNOW nothing", told(y, numbers).kinds(3, 0), 127 - 48);
        Due.is("Promise 22: no DAY goes by", y.now(0), 0);
    }

    private static void kindsBounds() {
        LeftGloves x = silentOne(2, 3, 9);
        Due.is("Promise 23: no numbers: all KINDS", told(x).kinds(3, 0), 127);
        Due.is("Promise 23: it KNOWS nothing now: all KINDS", told(x, 0, 0).kinds(3, 0), 127);
        Due.is("Promise 23: it doesn't KNOW TOPIC 0 now: no KIND", told(x, 1).kinds(3, 0), 0);
        Due.is("Promise 23: no finding, though no KIND fits", x.status(-1), 0);
        x.glove(4, 3);
        x.change(0, 2, 0);
        x.say(0, 3153);
        x.change(0, 0, 0);
        Due.is("Promise 23: DOUBLE and STIFF, the last ones", told(x, 0, 32768).kinds(3, 0), 96);
        x.say(0, 3150);
        Due.is("Promise 23: STIFF alone", told(x, 0, 32768).kinds(3, 0), 32);
        x.change(0, 2, 9);
        x.say(0, 3151);
        // Hushed to 0, a KIDSKIN and a LADY NEED 0; hushed by nobody a GLOVE NEEDS 1.
        Due.is("Promise 23: GLOVE, the first, KIDSKIN, LADY, STIFF", told(x, 0, 32768).kinds(3, 0), 1 + 2 + 8 + 32);
        Due.is("Promise 23: nothing changes", x.of(0, 0) * 10 + x.now(0), 0);
    }

    private interface OfSheet {
        ToLongFunction<LeftGloves> of(int s, int glove);
    }

    private static void toldFindings() {
        findings("Promise 22", (s, glove) -> c -> c.fits(s, glove));
        findings("Promise 23", (s, glove) -> c -> c.kinds(s, glove));
    }

    private static void findings(String promise, OfSheet call) {
        int[] sheets = {-1, 4, 5, LEAST, MOST};
        for (int s : sheets) {
            Refused.everywhere(promise + ", BEYOND: no such sheet, " + s, Due.BEYOND, call.of(s, 0));
            Refused.is(promise + ": BEYOND of the sheet first, " + s, Refused::some, Due.BEYOND, call.of(s, -1));
        }
        for (int s = 0; s < 4; s++) {
            Refused.is(promise + ", MISSING: sheet " + s, LeftGloves::new, Due.MISSING, call.of(s, 0));
        }
        Refused.is(promise + ", MISSING: sheet 3", Refused::some, Due.MISSING, call.of(3, 0));
        Refused.is(promise + ": MISSING ahead of BEYOND of the GLOVE", Refused::some, Due.MISSING, call.of(3, 4));
        int[] gloves = {-1, 4, 8, LEAST, MOST};
        for (int glove : gloves) {
            Refused.is(promise + ", BEYOND: no such GLOVE, " + glove, Refused::some, Due.BEYOND, call.of(0, glove));
        }
        Refused.is(promise + ", BEYOND: no such GLOVE, of eight", Refused::full, Due.BEYOND, call.of(3, 8));
        LeftGloves x = Refused.full();
        Due.is(promise + ": the last sheet, the last GLOVE", call.of(3, 7).applyAsLong(x), 0);
    }

    /** What a LIST tells by draws from a z, told again in longs: z as 32 bits without a sign. */
    private static void draws() {
        int[] seeds = {1, 0, -1, LEAST, MOST, Due.BEYOND, 255, 256, -256};
        for (int seed : seeds) {
            LeftGloves x = new LeftGloves();
            x.seed(seed);
            Due.is("Promise 24: n 1, no GLOVES, z " + seed, x.talk(1), 0);
            long z = seed & 0xffffffffL;
            int[] rests = new int[3];
            int[] divisors = {6, 16, 10};
            for (int i = 0; i < 3; i++) {
                z = z * 1103515245L + 12345L & 0xffffffffL;
                rests[i] = (int) ((z >> 8) % divisors[i]);
            }
            Due.is("Terms, DRAWS: z >>> 8 is never below 0, z " + seed, x.said(0), 1000 * rests[0] + 10 * rests[1] + rests[2]);
            Due.is("Terms, DRAWS: z is an int, three draws, z " + seed, x.count(6), (int) z);
            Due.is("Promise 24: the other places stay", x.said(1), 1015);
        }
        LeftGloves x = new LeftGloves();
        x.talk(1);
        // 1103527590, 2524885223 and 662824084 without their lowest 8 bits: 4310654, 9862832, 2589156.
        Due.is("Terms, DRAWS: z is 1 at first", x.said(0), 1000 * (4310654 % 6) + 10 * (9862832 % 16) + 2589156 % 10);
        Due.is("Terms, DRAWS: z behind three draws", x.count(6), 662824084);
    }

    private static void talkBounds() {
        LeftGloves x = new LeftGloves();
        LeftGloves y = new LeftGloves();
        for (int room = 0; room < 6; room++) {
            x.glove(5, room);
            y.glove(5, room);
        }
        int last = 0;
        for (int i = 0; i < 20; i++) {
            last = x.talk(1);
            Due.is("Promise 24: a DAY for each, " + i, x.now(0), i + 1);
        }
        Due.is("Promise 24: n 20 is 20 times n 1", y.talk(20), last);
        Due.is("Promise 24: n 20 draws as often", y.count(6), x.count(6));
        Due.is("Promise 24: n 20 is 20 DAYS", y.now(0), 20);
        for (int i = 0; i < 6; i++) {
            Due.is("Promise 24: for DAY modulo 6, place " + i, y.said(i), x.said(i));
        }
        Due.is("Promise 24: TOPICS that GLOVES KNOW together then", last, x.now(1));
        LeftGloves z = new LeftGloves();
        z.glove(0, 0);
        z.change(0, 3, 40);
        z.change(0, 4, 6);
        z.change(0, 2, 0);
        Due.is("Promise 24: what HANDS KNOW isn't told", z.talk(1), 0);
        Due.is("Promise 24: its HAND KNOWS it", z.of(0, 5) & 40, 40);
        LeftGloves w = new LeftGloves();
        w.go(5);
        w.talk(2);
        Due.is("Promise 24: from DAY 5 on: places 5 and 0", w.said(1) * 10000 + w.said(4), 10154045);
        Due.is("Promise 24: DAY 5 says the first of them", w.said(5), 2006);
    }

    private static void talkBeyond() {
        int[] beyond = {0, -1, 21, 22, LEAST, MOST};
        for (int n : beyond) {
            Refused.everywhere("Promise 24, BEYOND: n " + n, Due.BEYOND, c -> c.talk(n));
        }
    }

    private static void odds(String told, LeftGloves x, int n, long above, long below) {
        Due.is("Promise 25: above, " + told, x.odds(0, n, 0), above);
        Due.is("Promise 25: below, " + told, x.odds(0, n, 1), below);
    }

    private static void oddsBounds() {
        LeftGloves x = new LeftGloves();
        x.glove(5, 0);
        x.change(0, 3, 65535);
        odds("its HAND KNOWS nothing, n 0", x, 0, 1, 1);
        odds("its HAND KNOWS nothing, n 1", x, 1, 0, 1);
        odds("its HAND KNOWS nothing, n 15", x, 15, 0, 1);
        x.change(0, 5, 32768);
        odds("TOPIC 15 alone, n 0", x, 0, 1, 1);
        odds("TOPIC 15 alone, n 1", x, 1, 1, 16);
        odds("TOPIC 15 alone, n 15", x, 15, 1, 1L << 60);
        x.change(0, 5, 3);
        odds("2 of 16 are 1 of 8, n 1", x, 1, 1, 8);
        odds("2 of 16 are 1 of 8, n 15", x, 15, 1, 1L << 45);
        x.change(0, 5, 63);
        odds("6 of 16 are 3 of 8, n 2", x, 2, 9, 64);
        x.change(0, 5, 4095);
        odds("12 of 16 are 3 of 4, n 15", x, 15, 14348907, 1L << 30);
        x.change(0, 5, 32767);
        odds("15 of 16, n 1", x, 1, 15, 16);
        odds("15 of 16, n 15", x, 15, 437893890380859375L, 1152921504606846976L);
        x.change(0, 5, 65535);
        odds("all, n 0", x, 0, 1, 1);
        odds("all, n 15", x, 15, 1, 1);
        Due.is("Promise 25: no draws are made", x.count(6), 1);
        LeftGloves y = Refused.full();
        Due.is("Promise 25: the last GLOVE, 7 of 16", y.odds(7, 1, 0), 7);
        Due.is("Promise 25: no finding", y.status(-1), 0);
    }

    private static void oddsBeyond() {
        int[] times = {-1, 16, 17, LEAST, MOST};
        for (int n : times) {
            Refused.everywhere("Promise 25, BEYOND: n " + n, Due.BEYOND, c -> c.odds(0, n, 0));
        }
        int[] whats = {-1, 2, LEAST, MOST};
        for (int what : whats) {
            Refused.everywhere("Promise 25, BEYOND: what " + what, Due.BEYOND, c -> c.odds(0, 1, what));
        }
        int[] gloves = {-1, 8, LEAST, MOST};
        for (int glove : gloves) {
            Refused.everywhere("Promise 25, BEYOND: GLOVE " + glove, Due.BEYOND, c -> c.odds(glove, 1, 1));
        }
        Refused.is("Promise 25, BEYOND: there are no GLOVES", LeftGloves::new, Due.BEYOND, c -> c.odds(0, 0, 0));
        Refused.is("Promise 25, BEYOND: four GLOVES, number 4", Refused::some, Due.BEYOND, c -> c.odds(4, 0, 0));
    }

    private static void seed() {
        LeftGloves x = new LeftGloves();
        int[] seeds = {0, -1, LEAST, MOST, Due.BEYOND, Due.FULL, Due.KIND, Due.NONE, Due.STATE, Due.MISSING, Due.SIZE, -1000008};
        int was = 1;
        for (int v : seeds) {
            Due.is("Promise 26: what it was, then " + v, x.seed(v), was);
            Due.is("Promise 40: z may be any int, " + v, x.count(6), v);
            was = v;
        }
        Due.is("Terms, FINDINGS: what seed() and count(6) tell is no finding", x.status(-1), 0);
    }
}
