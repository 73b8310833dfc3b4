/** Boundary cases of promises 1 to 4, and of ROOMS, TOPICS and THE LIST in the Terms. */
public final class EdgesListTest {
    private static final int LEAST = Integer.MIN_VALUE;
    private static final int MOST = Integer.MAX_VALUE;

    public static void main(String[] args) {
        allAsAtFirst();
        newOnesShareNothing();
        sayPlaces();
        sayings();
        said();
        roomAndWhat();
        roomsEmptyAndFull();
        Due.end();
    }

    private static void allAsAtFirst() {
        LeftGloves x = new LeftGloves();
        for (int which = -1; which < 7; which++) {
            Due.is("Promise 1: no findings yet, " + which, x.status(which), 0);
        }
        int[] counts = {0, 0, 0, 0, 0, 0, 1, 0};
        for (int what = 0; what < 8; what++) {
            Due.is("Promise 1: all as at first, count " + what, x.count(what), counts[what]);
        }
        for (int i = 0; i < 6; i++) {
            Due.is("Promise 1: THE LIST at first, place " + i, x.said(i), 1000 * i + 10 * i + 5);
        }
        Due.is("Promise 1: no GLOVES, not even 0", x.of(0, 0), Due.BEYOND);
        Due.is("Promise 1: no image is kept", x.undo(), Due.NONE);
        Due.is("Promise 1: no image is kept to be torn", x.tear(), 0);
        Due.is("Promise 1: THE TAPE is empty", x.wipe(), 0);
        Due.is("Promise 1: an empty TAPE is no TEXT", x.text(), -1);
        for (int spot = 0; spot < 10; spot++) {
            Due.is("Promise 1: SPOTS hold nothing at first, " + spot, x.as(spot, 0), Due.MISSING);
        }
        for (int s = 0; s < 4; s++) {
            Due.is("Promise 1: SHEETS are MISSING at first, " + s, x.load(s), Due.MISSING);
        }
    }

    private static void newOnesShareNothing() {
        LeftGloves used = Refused.full();
        used.talk(20);
        used.said(-1);
        allAsAtFirst();
        Due.is("Promise 1: the used one is as it was", used.count(1), 8);
        LeftGloves one = new LeftGloves();
        LeftGloves other = new LeftGloves();
        one.glove(1, 1);
        one.say(0, 9);
        one.sheet(0, 8, 1);
        one.image();
        Due.is("Promise 1: another one has no GLOVES", other.count(1), 0);
        Due.is("Promise 1: another one has its own LIST", other.said(0), 5);
        Due.is("Promise 1: another one has its own SHEETS", other.judge(0), Due.MISSING);
        Due.is("Promise 1: another one keeps its own image", other.undo(), Due.NONE);
    }

    private static void sayPlaces() {
        LeftGloves x = new LeftGloves();
        Due.is("Promise 2: place 0 is the first", x.say(0, 7), 5);
        Due.is("Promise 2: place 5 is the last", x.say(5, 8), 5055);
        Due.is("Promise 2: what it was, told again", x.say(5, 8), 8);
        Due.is("Promise 2: place 0 then", x.said(0), 7);
        Due.is("Promise 2: place 1 stays", x.said(1), 1015);
        int[] beyond = {-1, 6, 7, LEAST, MOST};
        for (int i : beyond) {
            Refused.everywhere("Promise 2, BEYOND: place " + i, Due.BEYOND, c -> c.say(i, 7));
        }
    }

    private static void sayings() {
        int[] fine = {0, 9, 10, 150, 159, 1000, 1159, 4000, 5000, 5150, 5159};
        for (int saying : fine) {
            LeftGloves x = new LeftGloves();
            Due.is("Promise 2: SAYING " + saying, x.say(3, saying), 3035);
            Due.is("Promise 2: SAYING " + saying + " then", x.said(3), saying);
        }
        int[] none = {-1, -9, -10, -159, -1000, -5159, 160, 161, 169, 170, 999, 1160, 1999, 5160, 5999, 6000, 6159, 10000, 65536,
            LEAST, MOST};
        for (int saying : none) {
            Refused.everywhere("Promise 2, BEYOND: " + saying + " is no SAYING", Due.BEYOND, c -> c.say(0, saying));
        }
        LeftGloves x = new LeftGloves();
        x.say(0, 5159);
        Due.is("Promise 2: ROOM 5 of 5159", x.room(5, 3) >> 15, 1);
        Due.is("Promise 2: TOPIC 15 alone of 5159", x.room(5, 3), 1 << 15 | 1 << 5);
        Due.is("Promise 2: LOUD 9 of 5159, a GLOVE that NEEDS 9 hears it", loudOf5159(1), 1);
        Due.is("Promise 2: LOUD 9 of 5159, a GLOVE that NEEDS 10 doesn't", loudOf5159(0), 0);
    }

    private static int loudOf5159(int open) {
        LeftGloves x = new LeftGloves();
        x.say(0, 5159);
        x.glove(0, 5);
        x.change(0, 2, open);
        return x.now(6);
    }

    private static void said() {
        LeftGloves x = new LeftGloves();
        Due.is("Promise 3: place 0 is the first", x.said(0), 5);
        Due.is("Promise 3: place 5 is the last", x.said(5), 5055);
        int[] beyond = {-1, 6, 7, LEAST, MOST};
        for (int i : beyond) {
            Refused.everywhere("Promise 3, BEYOND: place " + i, Due.BEYOND, c -> c.said(i));
        }
    }

    private static void roomAndWhat() {
        int[] rooms = {-1, 6, 7, LEAST, MOST};
        for (int room : rooms) {
            for (int what = 0; what < 4; what++) {
                int asked = what;
                Refused.is("Promise 4, BEYOND: ROOM " + room + ", what " + what, Refused::some, Due.BEYOND, c -> c.room(room, asked));
            }
        }
        int[] whats = {-1, 4, 5, LEAST, MOST};
        for (int what : whats) {
            Refused.everywhere("Promise 4, BEYOND: what " + what, Due.BEYOND, c -> c.room(5, what));
        }
    }

    private static void roomsEmptyAndFull() {
        LeftGloves x = new LeftGloves();
        for (int what = 0; what < 3; what++) {
            Due.is("Promise 4: an empty ROOM 0, what " + what, x.room(0, what), 0);
            Due.is("Promise 4: an empty ROOM 5, what " + what, x.room(5, what), 0);
        }
        for (int i = 0; i < 6; i++) {
            x.say(i, 5000 + 10 * (10 + i));
        }
        Due.is("Promise 4: all places say IN ROOM 5, as low as can be", x.room(5, 3), 0b1111110000000000);
        Due.is("Promise 4: none says IN ROOM 4", x.room(4, 3), 0);
        x.say(0, 5159);
        Due.is("Promise 4: a TOPIC said twice is told once", x.room(5, 3), 0b1111100000000000);
        for (int glove = 0; glove < 8; glove++) {
            x.glove(6, 5);
            x.change(glove, 3, 3 << 2 * glove);
        }
        Due.is("Promise 4: all eight GLOVES", x.room(5, 0), 255);
        Due.is("Promise 4: eight DOUBLES HUSH by 16", x.room(5, 1), 16);
        Due.is("Promise 4: they KNOW all TOPICS together", x.room(5, 2), 65535);
        Due.is("Promise 4: nobody is IN ROOM 4", x.room(4, 0), 0);
        x.change(7, 1, 4);
        Due.is("Promise 4: the last GLOVE, as a set", x.room(4, 0), 128);
        Due.is("Promise 4: the others", x.room(5, 0), 127);
        Due.is("Promise 4: they KNOW without it", x.room(5, 2), 0b0011111111111111);
        Due.is("Promise 4: what a HAND KNOWS doesn't count", handInRoom(), 0);
    }

    private static int handInRoom() {
        LeftGloves x = new LeftGloves();
        x.glove(0, 0);
        x.change(0, 5, 65535);
        return x.room(0, 2);
    }
}
