/** Promises 1 to 4: a new object, say, said, room. */
public final class ListTest {
    public static void main(String[] args) {
        newObject();
        say();
        said();
        room();
        Due.end();
    }

    private static void newObject() {
        LeftGloves x = new LeftGloves();
        int[] counts = {0, 0, 0, 0, 0, 0, 1, 0};
        for (int what = 0; what < counts.length; what++) {
            Due.is("new: count " + what, x.count(what), counts[what]);
        }
        for (int i = 0; i < 6; i++) {
            Due.is("new: said " + i, x.said(i), 1010 * i + 5);
            Due.is("new: room " + i, x.room(i, 0), 0);
            Due.is("new: topics in room " + i, x.room(i, 3), 1 << i);
        }
        for (int which = -1; which < 7; which++) {
            Due.is("new: status " + which, x.status(which), 0);
        }
        Due.is("new: text", x.text(), -1);
        Due.is("new: undo", x.undo(), Due.NONE);
        Due.is("new: tear", x.tear(), 0);
        for (int s = 0; s < 4; s++) {
            Due.is("new: sheet " + s, x.judge(s), Due.MISSING);
        }
        for (int spot = 0; spot < 10; spot++) {
            Due.is("new: spot " + spot, x.as(spot, 0), Due.MISSING);
        }
        Due.is("another new one", new LeftGloves().status(-1), 0);
    }

    private static void say() {
        LeftGloves x = new LeftGloves();
        Due.is("say", x.say(3, 5159), 3035);
        Due.is("say again", x.say(3, 0), 5159);
        Due.is("say last place", x.say(5, 2000), 5055);
        Due.is("said 3", x.said(3), 0);
        Due.is("said 5", x.said(5), 2000);
        Due.is("said 4 stays", x.said(4), 4045);
        int[] none = {-1, -1000, 160, 999, 1160, 5160, 5999, 6000, Integer.MAX_VALUE, Integer.MIN_VALUE};
        for (int saying : none) {
            Due.is("say 0 " + saying, x.say(0, saying), Due.BEYOND);
        }
        Due.is("say -1", x.say(-1, 5), Due.BEYOND);
        Due.is("say 6", x.say(6, 5), Due.BEYOND);
        Due.is("nothing changed", x.said(0), 5);
        Due.is("all counted", x.status(0), none.length + 2);
    }

    private static void said() {
        LeftGloves x = new LeftGloves();
        Due.is("said 0", x.said(0), 5);
        Due.is("said -1", x.said(-1), Due.BEYOND);
        Due.is("said 6", x.said(6), Due.BEYOND);
        Due.is("said least", x.said(Integer.MIN_VALUE), Due.BEYOND);
    }

    private static void room() {
        LeftGloves x = Due.club("kidskin in 2 knows 5;double in 2 knows 9;lady in 2;glove in 5 knows 64;stiff in 2 lies 100");
        Due.is("gloves in 2", x.room(2, 0), 0b10111);
        Due.is("gloves in 5", x.room(5, 0), 0b1000);
        Due.is("gloves in 0", x.room(0, 0), 0);
        Due.is("hush in 2", x.room(2, 1), 1 + 2 + 1 + 1);
        Due.is("hush in 5", x.room(5, 1), 0);
        Due.is("known in 2", x.room(2, 2), 13);
        Due.is("known in 5", x.room(5, 2), 64);
        Due.is("known in 0", x.room(0, 2), 0);
        x.say(0, 2159);
        x.say(1, 2020);
        Due.is("topics in 2", x.room(2, 3), 1 << 15 | 1 << 2);
        Due.is("topics in 0", x.room(0, 3), 0);
        Due.is("room -1", x.room(-1, 0), Due.BEYOND);
        Due.is("room 6", x.room(6, 0), Due.BEYOND);
        Due.is("what -1", x.room(0, -1), Due.BEYOND);
        Due.is("what 4", x.room(0, 4), Due.BEYOND);
        Due.is("counted once each", x.status(0), 4);
    }
}
