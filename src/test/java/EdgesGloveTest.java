/** Boundary cases of promises 5 to 9, and of GLOVES and their KINDS in the Terms. */
public final class EdgesGloveTest {
    private static final int LEAST = Integer.MIN_VALUE;
    private static final int MOST = Integer.MAX_VALUE;

    public static void main(String[] args) {
        atFirst();
        eightAtMost();
        gloveBeyond();
        ofBeyond();
        needs();
        hushes();
        staysAndKeeps();
        changeBounds();
        changeBeyond();
        draw();
        drawFindings();
        who();
        Due.end();
    }

    private static void atFirst() {
        for (int kind = 0; kind < 7; kind++) {
            LeftGloves x = new LeftGloves();
            Due.is("Promise 5: KIND " + kind + " IN ROOM 5", x.glove(kind, 5), 0);
            int[] first = {kind, 5, 5, 0, 0, 0, 0};
            for (int what = 0; what < 7; what++) {
                Due.is("Terms, GLOVES: at first, KIND " + kind + ", what " + what, x.of(0, what), first[what]);
            }
            Due.is("Promise 5: KIND " + kind + " IN ROOM 0", x.glove(kind, 0), 1);
            Due.is("Promise 5: it is IN ROOM 0", x.of(1, 1), 0);
        }
    }

    private static void eightAtMost() {
        LeftGloves x = new LeftGloves();
        for (int glove = 0; glove < 8; glove++) {
            Due.is("Promise 5: its number, the next one", x.glove(6, 5), glove);
        }
        Due.is("Terms, GLOVES: 8 at most", x.count(1), 8);
        for (int kind = 0; kind < 7; kind++) {
            int asked = kind;
            Refused.is("Promise 5, FULL: a 9th, KIND " + kind, Refused::full, Due.FULL, c -> c.glove(asked, 0));
        }
        Refused.is("Promise 5: BEYOND is asked ahead of FULL, KIND 7", Refused::full, Due.BEYOND, c -> c.glove(7, 0));
        Refused.is("Promise 5: BEYOND is asked ahead of FULL, ROOM 6", Refused::full, Due.BEYOND, c -> c.glove(0, 6));
        LeftGloves y = new LeftGloves();
        for (int glove = 0; glove < 7; glove++) {
            y.glove(0, 0);
        }
        y.image();
        Due.is("Promise 5: the 8th has its place", y.glove(0, 0), 7);
        Due.is("Promise 5: then it is FULL", y.glove(0, 0), Due.FULL);
        y.undo();
        Due.is("Promise 5: behind undo() there is a place again", y.glove(0, 0), 7);
    }

    private static void gloveBeyond() {
        int[] kinds = {-1, 7, 8, LEAST, MOST};
        for (int kind : kinds) {
            Refused.everywhere("Promise 5, BEYOND: KIND " + kind, Due.BEYOND, c -> c.glove(kind, 0));
        }
        int[] rooms = {-1, 6, 7, LEAST, MOST};
        for (int room : rooms) {
            Refused.everywhere("Promise 5, BEYOND: ROOM " + room, Due.BEYOND, c -> c.glove(0, room));
        }
    }

    private static void ofBeyond() {
        Refused.is("Promise 6, BEYOND: there are no GLOVES", LeftGloves::new, Due.BEYOND, c -> c.of(0, 0));
        Refused.is("Promise 6, BEYOND: four GLOVES, number 4", Refused::some, Due.BEYOND, c -> c.of(4, 0));
        int[] gloves = {-1, 8, 9, LEAST, MOST};
        for (int glove : gloves) {
            Refused.everywhere("Promise 6, BEYOND: GLOVE " + glove, Due.BEYOND, c -> c.of(glove, 3));
        }
        int[] whats = {-1, 11, 12, LEAST, MOST};
        for (int what : whats) {
            Refused.everywhere("Promise 6, BEYOND: what " + what, Due.BEYOND, c -> c.of(0, what));
        }
        LeftGloves x = Refused.full();
        Due.is("Promise 6: the last GLOVE, the first what", x.of(7, 0), 0);
        Due.is("Promise 6: the last GLOVE, the last what", x.of(7, 10), 6);
    }

    private static LeftGloves one(int kind, int open) {
        LeftGloves x = new LeftGloves();
        x.glove(kind, 2);
        x.change(0, 2, open);
        return x;
    }

    private static void needs() {
        Due.is("Terms, NEEDS: GLOVE, OPEN 0", one(0, 0).of(0, 7), 10);
        Due.is("Terms, NEEDS: GLOVE, OPEN 9", one(0, 9).of(0, 7), 1);
        Due.is("Terms, NEEDS: KIDSKIN, OPEN 0", one(1, 0).of(0, 7), 8);
        Due.is("Terms, NEEDS: KIDSKIN, OPEN 7, 1", one(1, 7).of(0, 7), 1);
        Due.is("Terms, NEEDS: KIDSKIN, OPEN 8, just 0", one(1, 8).of(0, 7), 0);
        Due.is("Terms, NEEDS: KIDSKIN, OPEN 9, 0 at least", one(1, 9).of(0, 7), 0);
        Due.is("Terms, NEEDS: MITTEN, OPEN 0", one(2, 0).of(0, 7), 13);
        Due.is("Terms, NEEDS: MITTEN, OPEN 9", one(2, 9).of(0, 7), 4);
        Due.is("Terms, NEEDS: LADY, OPEN 0", one(3, 0).of(0, 7), 9);
        Due.is("Terms, NEEDS: LADY, OPEN 8", one(3, 8).of(0, 7), 1);
        Due.is("Terms, NEEDS: LADY, OPEN 9, 0 at least", one(3, 9).of(0, 7), 0);
        Due.is("Terms, NEEDS: BURNT, OPEN 0", one(4, 0).of(0, 7), 99);
        Due.is("Terms, NEEDS: BURNT, OPEN 9", one(4, 9).of(0, 7), 99);
        Due.is("Terms, NEEDS: STIFF, OPEN 0", one(5, 0).of(0, 7), 0);
        Due.is("Terms, NEEDS: STIFF, OPEN 9", one(5, 9).of(0, 7), 0);
        Due.is("Terms, NEEDS: DOUBLE alone, OPEN 0", one(6, 0).of(0, 7), 8);
        Due.is("Terms, NEEDS: DOUBLE alone, OPEN 9, 0 at least", one(6, 9).of(0, 7), 0);
        for (int open = 0; open < 10; open += 9) {
            LeftGloves x = one(6, open);
            x.glove(4, 3);
            Due.is("Terms, NEEDS: DOUBLE, another one in the next ROOM", x.of(0, 7), open == 0 ? 8 : 0);
            x.change(1, 1, 2);
            Due.is("Terms, NEEDS: DOUBLE, 1 if another GLOVE is IN its ROOM", x.of(0, 7), 1);
            x.change(0, 1, 0);
            Due.is("Terms, NEEDS: DOUBLE, alone again", x.of(0, 7), open == 0 ? 8 : 0);
        }
        LeftGloves two = one(6, 0);
        two.glove(6, 2);
        Due.is("Terms, NEEDS: a DOUBLE is another GLOVE for a DOUBLE", two.of(0, 7) + two.of(1, 7), 2);
    }

    private static void hushes() {
        int[] hushes = {0, 1, 0, 1, 0, 0, 2};
        for (int kind = 0; kind < 7; kind++) {
            Due.is("Terms, HUSHES: KIND " + kind, one(kind, 5).of(0, 8), hushes[kind]);
            Due.is("Terms, HUSHES: KIND " + kind + ", as it is told of its ROOM", one(kind, 5).room(2, 1), hushes[kind]);
        }
        LeftGloves x = one(5, 5);
        x.change(0, 4, 99);
        Due.is("Terms, HUSHES: STIFF, LIES 99", x.of(0, 8), 0);
        x.change(0, 4, 100);
        Due.is("Terms, HUSHES: STIFF, LIES 100 or more", x.of(0, 8), 1);
        x.change(0, 4, 101);
        Due.is("Terms, HUSHES: STIFF, LIES 101", x.of(0, 8), 1);
        x.change(0, 4, 99);
        x.go(1);
        Due.is("Terms, HUSHES: STIFF, LIES 100 behind a DAY", x.of(0, 8), 1);
        LeftGloves y = one(0, 5);
        y.change(0, 4, 100);
        Due.is("Terms, HUSHES: a GLOVE never", y.of(0, 8), 0);
    }

    private static void staysAndKeeps() {
        int[] stays = {7, 5, 14, 14, 0, 0, 5};
        int[] keeps = {6, 8, 3, 3, 3, 16, 10};
        for (int kind = 0; kind < 7; kind++) {
            LeftGloves x = one(kind, 0);
            Due.is("Terms, STAYS: KIND " + kind, x.of(0, 9), stays[kind]);
            Due.is("Terms, KEEPS: KIND " + kind, x.of(0, 10), keeps[kind]);
            if (stays[kind] > 0) {
                x.go(stays[kind] - 1);
                Due.is("Terms, STAYS: not drawn on a DAY earlier, KIND " + kind, x.of(0, 6), 0);
                x.go(1);
            } else {
                x.go(60);
            }
            Due.is("Terms, STAYS: drawn on, or stays for ever, KIND " + kind, x.of(0, 6), stays[kind] > 0 ? 1 : 0);
        }
    }

    private static void changeBounds() {
        int[] most = {6, 5, 9, 65535, 9999, 65535, 9999};
        for (int what = 0; what < 7; what++) {
            LeftGloves x = new LeftGloves();
            for (int glove = 0; glove < 8; glove++) {
                x.glove(0, 0);
            }
            x.change(7, what, 1);
            Due.is("Promise 7: the greatest, what " + what, x.change(7, what, most[what]), 1);
            Due.is("Promise 7: it is so, what " + what, x.of(7, what), most[what]);
            Due.is("Promise 7: what it was, the same again, what " + what, x.change(7, what, most[what]), most[what]);
            Due.is("Promise 7: the least, what " + what, x.change(7, what, 0), most[what]);
            Due.is("Promise 7: it is 0, what " + what, x.of(7, what), 0);
            for (int other = 0; other < 7; other++) {
                if (other != what) {
                    Due.is("Promise 7: what " + other + " stays when what " + what + " changes", x.of(7, other), other == 2 ? 5 : 0);
                }
            }
            Due.is("Promise 7: the GLOVE ahead stays", x.of(6, what), what == 2 ? 5 : 0);
        }
    }

    private static void changeBeyond() {
        int[] most = {6, 5, 9, 65535, 9999, 65535, 9999};
        for (int what = 0; what < 7; what++) {
            int asked = what;
            int[] values = {-1, most[what] + 1, LEAST, MOST};
            for (int v : values) {
                Refused.is("Promise 7, BEYOND: what " + what + " v " + v, Refused::some, Due.BEYOND, c -> c.change(0, asked, v));
            }
            Refused.everywhere("Promise 7, BEYOND: GLOVE -1, what " + what, Due.BEYOND, c -> c.change(-1, asked, 0));
        }
        int[] whats = {-1, 7, 8, 9, 10, 11, LEAST, MOST};
        for (int what : whats) {
            Refused.everywhere("Promise 7, BEYOND: what " + what, Due.BEYOND, c -> c.change(0, what, 0));
        }
        Refused.is("Promise 7, BEYOND: there are no GLOVES", LeftGloves::new, Due.BEYOND, c -> c.change(0, 0, 0));
        Refused.is("Promise 7, BEYOND: four GLOVES, number 4", Refused::some, Due.BEYOND, c -> c.change(4, 0, 0));
        Refused.is("Promise 7, BEYOND: eight GLOVES, number 8", Refused::full, Due.BEYOND, c -> c.change(8, 0, 0));
    }

    private static void draw() {
        LeftGloves x = new LeftGloves();
        x.glove(0, 5);
        x.change(0, 3, 32769);
        x.change(0, 4, 6);
        x.change(0, 5, 3);
        x.change(0, 6, 9998);
        Due.is("Promise 8: its HAND KNOWS, too, what it KNOWS", x.draw(0), 32771);
        Due.is("Promise 8: behind ROOM 5 comes 0", x.of(0, 1), 0);
        Due.is("Promise 8: it KNOWS nothing", x.of(0, 3), 0);
        Due.is("Promise 8: LIES is 0", x.of(0, 4), 0);
        Due.is("Promise 8: DRAWN 1 more", x.of(0, 6), 9999);
        Due.is("Promise 8: of an empty one its HAND KNOWS as much", x.draw(0), 32771);
        Due.is("Promise 8: DRAWN 9999 at most", x.of(0, 6), 9999);
        Due.is("Promise 8: the next ROOM", x.of(0, 1), 1);
        Due.is("Promise 8: no DAY goes by", x.now(0), 0);
        Due.is("Promise 8: no matter how long it LIES", drawnAtOnce(), 1);
        LeftGloves y = Refused.full();
        y.change(7, 3, 65535);
        Due.is("Promise 8: the last GLOVE, all TOPICS", y.draw(7), 65535);
        Due.is("Promise 8: another one stays", y.of(6, 6), 9999);
    }

    private static int drawnAtOnce() {
        LeftGloves x = new LeftGloves();
        x.glove(2, 0);
        x.draw(0);
        return x.of(0, 6) + x.of(0, 4);
    }

    private static void drawFindings() {
        Refused.is("Promise 8, STATE: a STIFF one STAYS 0", Refused::some, Due.STATE, c -> c.draw(2));
        Refused.is("Promise 8, STATE: a BURNT one STAYS 0", Refused::some, Due.STATE, c -> c.draw(3));
        Refused.is("Promise 8, BEYOND: there are no GLOVES", LeftGloves::new, Due.BEYOND, c -> c.draw(0));
        Refused.is("Promise 8, BEYOND: four GLOVES, number 4", Refused::some, Due.BEYOND, c -> c.draw(4));
        int[] gloves = {-1, 8, LEAST, MOST};
        for (int glove : gloves) {
            Refused.everywhere("Promise 8, BEYOND: GLOVE " + glove, Due.BEYOND, c -> c.draw(glove));
        }
    }

    private static void who() {
        LeftGloves x = new LeftGloves();
        for (int topic = 0; topic < 16; topic++) {
            Due.is("Promise 9: no GLOVES", x.who(topic, 0) + x.who(topic, 1), 0);
        }
        for (int glove = 0; glove < 8; glove++) {
            x.glove(0, 0);
            x.change(glove, 3, 32768);
            x.change(glove, 5, 1);
        }
        Due.is("Promise 9: all KNOW TOPIC 15", x.who(15, 0), 255);
        Due.is("Promise 9: no HAND KNOWS TOPIC 15", x.who(15, 1), 0);
        Due.is("Promise 9: all HANDS KNOW TOPIC 0", x.who(0, 1), 255);
        Due.is("Promise 9: none KNOWS TOPIC 0", x.who(0, 0), 0);
        x.change(7, 3, 0);
        x.change(0, 5, 0);
        Due.is("Promise 9: all but the last", x.who(15, 0), 127);
        Due.is("Promise 9: HANDS of all but the first", x.who(0, 1), 254);
        int[] topics = {-1, 16, 17, 32, LEAST, MOST};
        for (int topic : topics) {
            Refused.everywhere("Promise 9, BEYOND: TOPIC " + topic, Due.BEYOND, c -> c.who(topic, 0));
        }
        int[] hands = {-1, 2, LEAST, MOST};
        for (int hand : hands) {
            Refused.everywhere("Promise 9, BEYOND: hand " + hand, Due.BEYOND, c -> c.who(0, hand));
        }
    }
}
