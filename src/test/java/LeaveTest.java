/** Promises 16 to 21: leave, openFor, kindFor, lower, cover, away. */
public final class LeaveTest {
    public static void main(String[] args) {
        leave();
        openFor();
        kindFor();
        lower();
        cover();
        away();
        awayByDoubles();
        Due.end();
    }

    private static void leave() {
        // Two topics are said in room 4, one in room 2, all while the glove lies its first 7 days.
        LeftGloves x = Due.club("glove in 1 open 9;burnt;said 0 4 8 9;said 1 4 9 9;said 2 2 3 9;said 3 5 1 0;said 4 5 1 0;said 5 5 1 0");
        Due.is("most in room 4", x.leave(0, 7), 4);
        Due.is("nothing drawn on yet: the least room", x.leave(0, 6), 0);
        Due.is("now", x.leave(0, 0), 0);
        Due.is("burnt: all alike", x.leave(1, 60), 0);
        Due.is("nothing changed", x.of(0, 1), 1);
        Due.is("no day went by", x.now(0), 0);
        Due.is("leave of none", x.leave(2, 0), Due.BEYOND);
        Due.is("leave of -1", x.leave(-1, 0), Due.BEYOND);
        Due.is("leave -1", x.leave(0, -1), Due.BEYOND);
        Due.is("leave 61", x.leave(0, 61), Due.BEYOND);
        Due.is("leave 60: all rooms in turn, three topics", x.leave(0, 60), 0);
        // What the hand knows already counts, too.
        LeftGloves y = Due.club("glove open 9;said 0 3 0 9;said 1 5 1 9;said 2 5 0 0;said 3 5 0 0;said 4 5 0 0;said 5 5 0 0;hand 0 1");
        Due.is("topic 0 is no news for the hand", y.leave(0, 7), 5);
    }

    private static void openFor() {
        LeftGloves x = Due.club("glove open 0;burnt;said 0 0 8 4;said 1 0 9 7;hand 1 3");
        Due.is("v 0", x.openFor(0, 0, 0), 0);
        Due.is("v 1", x.openFor(0, 1, 7), 3);
        Due.is("v 2", x.openFor(0, 2, 7), 6);
        Due.is("v 3 in 7 days", x.openFor(0, 3, 7), Due.NONE);
        Due.is("v 1 in 6 days", x.openFor(0, 1, 6), Due.NONE);
        Due.is("a burnt one's hand has 2", x.openFor(1, 2, 60), 0);
        Due.is("a burnt one gets no more", x.openFor(1, 3, 60), Due.NONE);
        Due.is("nothing changed", x.of(0, 2), 0);
        Due.is("v -1", x.openFor(0, -1, 0), Due.BEYOND);
        Due.is("v 17", x.openFor(0, 17, 0), Due.BEYOND);
        Due.is("v 16", x.openFor(0, 16, 60), Due.NONE);
        Due.is("n -1", x.openFor(0, 0, -1), Due.BEYOND);
        Due.is("n 61", x.openFor(0, 0, 61), Due.BEYOND);
        Due.is("of none", x.openFor(2, 0, 0), Due.BEYOND);
        Due.is("of -1", x.openFor(-1, 0, 0), Due.BEYOND);
        LeftGloves y = Due.club("glove;said 0 0 8 1");
        Due.is("9 at most, and it does", y.openFor(0, 1, 7), 9);
        y.say(0, 80);
        Due.is("9 at most, and it doesn't", y.openFor(0, 1, 7), Due.NONE);
    }

    private static void kindFor() {
        LeftGloves x = Due.club("stiff open 5;said 0 0 8 5;said 1 0 9 3");
        Due.is("nothing in the hand yet: the least kind", x.kindFor(0, 4), 0);
        // A kidskin hushes by 1 what it hears itself: 4 and 2, and it needs 3; a glove needs 5.
        Due.is("behind 5 days a kidskin was drawn on", x.kindFor(0, 5), 1);
        Due.is("behind 7 days a glove is as good", x.kindFor(0, 7), 0);
        Due.is("nothing changed", x.of(0, 0), 5);
        LeftGloves y = Due.club("stiff open 5 knows 1 lies 13;said 0 0 8 2");
        Due.is("too low for all: all that can be drawn on are alike", y.kindFor(0, 1), 0);
        y.say(0, 84);
        Due.is("hushed to 3, which a kidskin hears", y.kindFor(0, 1), 1);
        LeftGloves z = Due.club("burnt open 9;lady;said 0 0 8 3;said 1 0 9 3;said 2 0 9 2;said 3 0 10 1");
        // Hushed to 2, 2, 1, 0: a glove needs 1, a kidskin (hushed to 1, 1, 0, 0) 0.
        Due.is("a kidskin hears it all", z.kindFor(0, 5), 1);
        // With fingers closed only a double in company hears 3, hushed by itself to 1.
        LeftGloves v = Due.club("stiff open 0;burnt;said 0 0 8 3");
        Due.is("a double", v.kindFor(0, 5), 6);
        Due.is("kindFor of none", x.kindFor(1, 0), Due.BEYOND);
        Due.is("kindFor of -1", x.kindFor(-1, 0), Due.BEYOND);
        Due.is("kindFor -1", x.kindFor(0, -1), Due.BEYOND);
        Due.is("kindFor 61", x.kindFor(0, 61), Due.BEYOND);
        Due.is("kindFor 60", x.kindFor(0, 60) >= 0 ? 1 : 0, 1);
        // Topics 0 to 6 within 7 days are more than a glove or a mitten keeps.
        LeftGloves w = Due.club("glove open 9 knows 63;said 0 0 6 9");
        Due.is("a glove forgets one, a kidskin none", w.kindFor(0, 7), 1);
    }

    private static void lower() {
        LeftGloves x = Due.club("glove in 1 open 4;glove in 1 open 6;kidskin in 2 open 5;stiff in 3;burnt in 4;said 0 1 15 9");
        Due.is("needs 6 and 4", x.lower(0), 3);
        Due.is("the same room", x.lower(1), 3);
        Due.is("a kidskin needs 3, and hushes by 1", x.lower(2), 3);
        Due.is("a stiff one hears all", x.lower(3), Due.NONE);
        Due.is("a burnt one hears nothing", x.lower(4), 9);
        Due.is("nobody is there", x.lower(5), 9);
        Due.is("it is said as ever", x.said(0), 1159);
        Due.is("lower -1", x.lower(-1), Due.BEYOND);
        Due.is("lower 6", x.lower(6), Due.BEYOND);
        x.go(2);
        Due.is("the day doesn't matter", x.lower(0), 3);
        LeftGloves y = Due.club("glove open 9;glove open 0;kidskin in 1 open 8");
        Due.is("loud 0 isn't heard by a need of 1", y.lower(0), 0);
        Due.is("loud 0 is heard by a need of 0", y.lower(1), Due.NONE);
        LeftGloves z = Due.club("stiff in 3;said 0 3 0 9");
        Due.is("not below 0", z.lower(0), Due.NONE);
    }

    private static void cover() {
        LeftGloves x = Due.club("glove knows 1;glove knows 3;glove knows 4;glove knows 6;glove;hand 0 8;hand 4 16");
        Due.is("none", x.cover(0), 0);
        Due.is("one", x.cover(2), 2);
        Due.is("the first of several", x.cover(1), 1);
        Due.is("by glove and hand", x.cover(9), 1);
        Due.is("by a hand alone", x.cover(16), 16);
        Due.is("two; of several the least", x.cover(7), 6);
        Due.is("two rather than three of less", x.cover(15), 9);
        Due.is("three", x.cover(31), 25);
        Due.is("nobody knows", x.cover(32), Due.NONE);
        Due.is("nobody knows all", x.cover(65535), Due.NONE);
        Due.is("cover -1", x.cover(-1), Due.BEYOND);
        Due.is("cover 65536", x.cover(65536), Due.BEYOND);
        LeftGloves y = Due.club("glove knows 1;glove knows 2;glove knows 4;glove knows 8;glove;glove;glove;glove knows 15");
        Due.is("the one with the greatest number, but fewest", y.cover(15), 128);
    }

    private static void away() {
        // Said 7 loud, hushed by 1 + 2 + 1 to 3; the glove needs 5.
        LeftGloves x = Due.club("kidskin open 0;double open 0;glove open 5;lady open 0;said 0 0 9 7");
        Due.is("the double is enough", x.away(2, 9, 1), 2);
        Due.is("a day earlier", x.away(2, 9, 0), Due.NONE);
        Due.is("never said", x.away(2, 15, 20), Due.NONE);
        x.say(0, 98);
        Due.is("louder: any hush of 1", x.away(2, 9, 1), 1);
        x.say(0, 99);
        Due.is("louder still", x.away(2, 9, 1), 0);
        x.say(0, 96);
        Due.is("lower: two of them", x.away(2, 9, 1), 3);
        x.say(0, 95);
        Due.is("lower still: all of them", x.away(2, 9, 1), 11);
        x.say(0, 94);
        Due.is("too low", x.away(2, 9, 1), Due.NONE);
        Due.is("nothing changed", x.count(1), 4);
        Due.is("no day went by", x.now(0), 0);
        x.change(2, 5, 512);
        Due.is("its hand knows", x.away(2, 9, 20), 0);
        x.change(2, 5, 0);
        x.change(2, 3, 512);
        Due.is("it knows", x.away(2, 9, 0), 0);
        Due.is("away of none", x.away(4, 0, 0), Due.BEYOND);
        Due.is("away of -1", x.away(-1, 0, 0), Due.BEYOND);
        Due.is("topic -1", x.away(0, -1, 0), Due.BEYOND);
        Due.is("topic 16", x.away(0, 16, 0), Due.BEYOND);
        Due.is("n -1", x.away(0, 0, -1), Due.BEYOND);
        Due.is("n 21", x.away(0, 0, 21), Due.BEYOND);
        Due.is("n 20", x.away(2, 9, 20), 0);
    }

    private static void awayByDoubles() {
        // With company the double needs 1; alone it needs 8 and hushes 9 to 7.
        LeftGloves x = Due.club("double open 0;burnt;said 0 0 9 9;said 1 0 8 9;said 2 0 8 9;said 3 0 8 9;said 4 0 8 9;said 5 0 8 9");
        Due.is("company helps", x.away(0, 9, 1), 0);
        Due.is("and gone it doesn't: it knows with company", x.away(1, 9, 1), Due.NONE);
        // Forgetting: a mitten in company of nobody hears more, and forgets the topic.
        LeftGloves y = Due.club("mitten open 9 knows 13;lady open 0;said 0 0 9 5;said 1 0 8 4");
        // Hushed by 1: it hears 9 (4) and forgets 0; of 8 (3) nothing.
        Due.is("with the lady there it keeps 2", y.away(0, 2, 2), 0);
        Due.is("0 is forgotten either way", y.away(0, 0, 2), Due.NONE);
        Due.is("8 is heard without the lady", y.away(0, 8, 2), 2);
        // Two kidskins hush as much as one double.
        LeftGloves w = Due.club("kidskin open 0;kidskin open 0;double open 0;glove open 5;said 0 0 9 7");
        Due.is("fewest, though not the least number", w.away(3, 9, 1), 4);
        // Gloves that come later: those away are not drawn on, nor do they come into a room.
        LeftGloves z = Due.club("glove in 1 open 1;kidskin lies 4;said 0 2 0 0;said 1 1 9 9");
        Due.is("the kidskin comes on day 1 and hushes", z.ahead(0, 3, 2), 0);
        Due.is("without it", z.away(0, 9, 2), 2);
    }
}
