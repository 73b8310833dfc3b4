import java.math.BigInteger;

/** Promises 24 to 26: talk, odds, seed. */
public final class DrawsTest {
    public static void main(String[] args) {
        seed();
        talk();
        talkIsHeard();
        odds();
        Due.end();
    }

    private static void seed() {
        LeftGloves x = new LeftGloves();
        Due.is("seed", x.seed(7), 1);
        Due.is("z", x.count(6), 7);
        Due.is("seed of what looks like a finding", x.seed(Due.BEYOND), 7);
        Due.is("told back", x.count(6), Due.BEYOND);
        Due.is("and again", x.seed(Integer.MIN_VALUE), Due.BEYOND);
        Due.is("no finding", x.status(-1), 0);
        Due.is("z", x.count(6), Integer.MIN_VALUE);
    }

    private static void talk() {
        int[] seeds = {1, 0, -1, 12345, Integer.MIN_VALUE, 987654321};
        for (int seed : seeds) {
            LeftGloves x = new LeftGloves();
            x.seed(seed);
            x.go(2);
            long z = seed;
            for (int i = 0; i < 20; i++) {
                long[] rests = new long[3];
                int[] divisors = {6, 16, 10};
                for (int k = 0; k < 3; k++) {
                    z = (z * 1103515245L + 12345L) % (1L << 32);
                    z = z < 0 ? z + (1L << 32) : z;
                    rests[k] = z / 256 % divisors[k];
                }
                Due.is("talk", x.talk(1), 0);
                Due.is("said by draws", x.said((2 + i) % 6), 1000 * rests[0] + 10 * rests[1] + rests[2]);
                Due.is("z", x.count(6), (int) z);
                Due.is("day", x.now(0), 3 + i);
            }
            LeftGloves y = new LeftGloves();
            y.seed(seed);
            y.go(2);
            Due.is("talk 20", y.talk(20), 0);
            Due.is("z behind 20", y.count(6), (int) z);
            Due.is("day behind 20", y.now(0), 22);
            for (int place = 0; place < 6; place++) {
                Due.is("said behind 20", y.said(place), x.said(place));
            }
        }
        LeftGloves x = new LeftGloves();
        Due.is("talk 0", x.talk(0), Due.BEYOND);
        Due.is("talk -1", x.talk(-1), Due.BEYOND);
        Due.is("talk 21", x.talk(21), Due.BEYOND);
        Due.is("z stays", x.count(6), 1);
        Due.is("no day went by", x.now(0), 0);
    }

    private static void talkIsHeard() {
        LeftGloves x = Due.club("stiff;stiff in 1;stiff in 2;stiff in 3;stiff in 4;stiff in 5");
        int known = 0;
        for (int i = 0; i < 20; i++) {
            int answer = x.talk(1);
            known |= 1 << x.said(i % 6) % 1000 / 10;
            Due.is("stiff ones everywhere hear it all", answer, known);
        }
    }

    private static void odds() {
        LeftGloves x = Due.club("glove");
        for (int topics = 0; topics <= 16; topics++) {
            x.change(0, 5, (1 << topics) - 1);
            for (int n = 0; n <= 15; n++) {
                BigInteger above = BigInteger.valueOf(topics).pow(n);
                BigInteger below = BigInteger.valueOf(16).pow(n);
                BigInteger common = above.gcd(below);
                Due.is("above " + topics + " " + n, x.odds(0, n, 0), above.divide(common).longValueExact());
                Due.is("below " + topics + " " + n, x.odds(0, n, 1), below.divide(common).longValueExact());
            }
        }
        x.change(0, 5, 0b1010000000000001);
        x.change(0, 3, 65535);
        Due.is("three of the hand, not what the glove knows", x.odds(0, 1, 0), 3);
        Due.is("odds of none", x.odds(1, 0, 0), Due.BEYOND);
        Due.is("odds of -1", x.odds(-1, 0, 0), Due.BEYOND);
        Due.is("n -1", x.odds(0, -1, 0), Due.BEYOND);
        Due.is("n 16", x.odds(0, 16, 0), Due.BEYOND);
        Due.is("what -1", x.odds(0, 0, -1), Due.BEYOND);
        Due.is("what 2", x.odds(0, 0, 2), Due.BEYOND);
        Due.is("counted", x.status(0), 6);
    }
}
