/** Promises 27 to 29: feed, wipe, text. */
public final class TextTest {
    public static void main(String[] args) {
        feed();
        wipe();
        whatIsTold();
        blanksAndNumbers();
        faults();
        lastGloves();
        itemByItem();
        aFaultChangesNothing();
        aFullTape();
        Due.end();
    }

    private static void feed() {
        LeftGloves x = new LeftGloves();
        Due.is("feed 0", x.feed(0, 0), Due.BEYOND);
        Due.is("feed 5", x.feed(0, 5), Due.BEYOND);
        Due.is("feed -1", x.feed(0, -1), Due.BEYOND);
        Due.is("feed la", x.feed('z' << 16 | 'l' << 8 | 'a', 2), 2);
        Due.is("feed dy", x.feed('d' << 8 | 'y', 2), 4);
        Due.is("lady", x.text(), 1);
        Due.is("a lady", x.of(0, 0), 3);
        Due.is("empty then", x.count(5), 0);
        for (int i = 1; i <= 29; i++) {
            Due.is("feed 4", x.feed(0x20202020, 4), 4 * i);
        }
        Due.is("feed 3", x.feed(0x202020, 3), 119);
        Due.is("no place for two", x.feed(0, 2), Due.FULL);
        Due.is("n first", x.feed(0, 5), Due.BEYOND);
        Due.is("nothing came", x.count(5), 119);
        Due.is("a place for one", x.feed(32, 1), 120);
        Due.is("no place for one", x.feed(32, 1), Due.FULL);
        Due.is("full counted", x.status(1), 2);
        Due.is("120 blanks end too early", x.text(), -121);
    }

    private static void wipe() {
        LeftGloves x = new LeftGloves();
        Due.is("nothing", x.wipe(), 0);
        Due.feed(x, "lady");
        Due.is("wipe", x.wipe(), 4);
        Due.is("wiped", x.count(5), 0);
        Due.is("no text", x.text(), -1);
        Due.is("no glove", x.count(1), 0);
    }

    private static void whatIsTold() {
        String[] words = {"glove", "kidskin", "mitten", "lady", "burnt", "stiff", "double"};
        for (int kind = 0; kind < 7; kind++) {
            LeftGloves x = new LeftGloves();
            Due.is(words[kind], Due.text(x, words[kind]), 1);
            Due.is(words[kind] + " in", Due.text(x, words[kind] + " in 5"), 1);
            Due.is(words[kind] + " all", Due.text(x, words[kind] + " in 4 open 9 knows 65535 lies 9999"), 1);
            Due.is(words[kind] + " some", Due.text(x, words[kind] + " open 0 lies 1"), 1);
            traits(x, 0, kind, 0, 5, 0, 0);
            traits(x, 1, kind, 5, 5, 0, 0);
            traits(x, 2, kind, 4, 9, 65535, 9999);
            traits(x, 3, kind, 0, 0, 0, 1);
        }
        LeftGloves x = Due.club("glove");
        Due.is("said", Due.text(x, "said 5 4 15 9"), 1);
        Due.is("said 5", x.said(5), 4159);
        Due.is("hand", Due.text(x, "hand 0 65535"), 1);
        Due.is("hand knows", x.of(0, 5), 65535);
        Due.is("hand replaces", Due.text(x, "hand 0 1;hand 0 2"), 2);
        Due.is("hand knows what was told last", x.of(0, 5), 2);
    }

    private static void traits(LeftGloves x, int glove, int... traits) {
        for (int what = 0; what < traits.length; what++) {
            Due.is("of " + glove + " " + what, x.of(glove, what), traits[what]);
        }
        Due.is("hand", x.of(glove, 5), 0);
        Due.is("drawn", x.of(glove, 6), 0);
    }

    private static void blanksAndNumbers() {
        LeftGloves x = new LeftGloves();
        Due.is("blanks all over", Due.text(x, "  lady   in  3 ;  glove  "), 2);
        Due.is("in 3", x.of(0, 1), 3);
        Due.is("no blanks", Due.text(x, "lady in2open3knows4lies5;said0 1 2 3;hand0 9"), 3);
        traits(x, 2, 3, 2, 3, 4, 5);
        Due.is("said 0", x.said(0), 1023);
        Due.is("hand 0", x.of(0, 5), 9);
        Due.is("noughts ahead", Due.text(x, "lady in 0000000000000005"), 1);
        Due.is("in 5", x.of(3, 1), 5);
        Due.is("a number runs on", Due.text(x, "said 0 0 00"), -12);
        Due.is("numbers touch: one number", Due.text(x, "said 0000"), -10);
    }

    private static void faults() {
        Object[][] faults = {
            {"", 0}, {" ", 1}, {";", 0}, {"7", 0}, {"in", 0}, {"open 3", 0}, {"sock", 0}, {"Lady", 0}, {"ladys", 0}, {"ladyz", 0}, {"ladya", 0},
            {"lad", 0}, {"gloveglove", 0}, {"lady;", 5}, {"lady; ", 6}, {"lady;;lady", 5}, {"lady lady", 5},
            {"lady said 0 0 0 0", 5}, {"lady 3", 5}, {"lady\tin 3", 4}, {"lady\n", 4}, {"lady.", 4}, {"lady -1", 5},
            {"lady in", 7}, {"lady in ", 8}, {"lady in in", 8}, {"lady in;", 7}, {"lady in 6", 8}, {"lady in -1", 8},
            {"lady in 3 in 3", 10}, {"lady in 3 3", 10}, {"lady in 99999999999999999999", 8}, {"lady in 4294967296", 8},
            {"lady open 10", 10}, {"lady open", 9}, {"lady open 1 in 1", 12}, {"lady open 1 open 1", 12},
            {"lady knows 65536", 11}, {"lady knows 100000", 11}, {"lady knows 1 open 1", 13}, {"lady knows", 10},
            {"lady lies 10000", 10}, {"lady lies 1 knows 1", 12}, {"lady lies 1 lies 1", 12}, {"lady lies", 9},
            {"lady in3open4x", 13}, {"lady in 3!", 9}, {"lady In 3", 5}, {"lady on 3", 5},
            {"said", 4}, {"said ;", 5}, {"said x", 5}, {"said 6 0 0 0", 5}, {"said 5 6 0 0", 7}, {"said 5 5 16 0", 9},
            {"said 5 5 15 10", 12}, {"said 0 0 0", 10}, {"said 0 0 0;lady", 10}, {"said 0 0 0 0 0", 13},
            {"said 6 9 99 99", 5}, {"said 0 9 99 99", 7},
            {"hand", 4}, {"hand 0 0", 5}, {"hand 0", 5}, {"lady;hand 0", 11}, {"lady;hand 1 0", 10},
            {"lady;hand 0 65536", 12}, {"lady;hand 0 0 0", 14}, {"lady;hand 0 in", 12}, {"hand 0 0;lady", 5},
            {"lady;sock", 5}, {"lady;\u00e9", 5}, {"lady\u0000", 4}, {"lady;in 3", 5}, {"lady`", 4}, {"lady{", 4},
            {"lady in /", 8}, {"lady in :", 8}, {"lady,glove", 4}};
        for (Object[] fault : faults) {
            LeftGloves x = new LeftGloves();
            Due.is("[" + fault[0] + "]", Due.text(x, (String) fault[0]), -1 - (Integer) fault[1]);
            Due.is("no gloves", x.count(1), 0);
            Due.is("no tape", x.count(5), 0);
            Due.is("no finding", x.status(-1), 0);
        }
    }

    private static void lastGloves() {
        LeftGloves x = new LeftGloves();
        Due.is("seven", Due.text(x, "lady;lady;lady;lady;lady;lady;lady"), 7);
        Due.is("the word of a ninth", Due.text(x, "lady in 1; lady in 1"), -12);
        Due.is("seven as before", x.count(1), 7);
        Due.is("a hand of the eighth", Due.text(x, "stiff;hand 7 3;said 0 0 0 0"), 3);
        Due.is("its hand", x.of(7, 5), 3);
        Due.is("a ninth", Due.text(x, "glove"), -1);
        Due.is("a ninth behind others", Due.text(x, "said 0 0 0 1;glove"), -14);
        Due.is("nothing is said", x.said(0), 0);
        Due.is("no such word", Due.text(x, "sock"), -1);
        Due.is("none is told: fine", Due.text(x, "said 0 0 0 1"), 1);
    }

    private static void itemByItem() {
        LeftGloves x = new LeftGloves();
        Due.is("items", Due.text(x, "said 1 1 1 1;said 1 2 2 2;lady;hand 0 5;glove in 1;hand 1 6"), 6);
        Due.is("the later one counts", x.said(1), 2022);
        Due.is("hand 0", x.of(0, 5), 5);
        Due.is("hand 1", x.of(1, 5), 6);
    }

    private static void aFaultChangesNothing() {
        LeftGloves x = Due.club("lady;hand 0 7");
        x.go(3);
        x.hold(4, 0);
        x.seed(99);
        Due.is("a fault at the end", Due.text(x, "glove;said 0 0 0 0;hand 0 1;sock"), -29);
        Due.is("gloves", x.count(1), 1);
        Due.is("said", x.said(0), 5);
        Due.is("hand", x.of(0, 5), 7);
        Due.is("day", x.now(0), 3);
        Due.is("spot", x.as(4, 3), 0);
        Due.is("z", x.count(6), 99);
        Due.is("no fault", Due.text(x, "glove"), 1);
        Due.is("day", x.now(0), 3);
        Due.is("spot", x.as(4, 3), 0);
        Due.is("z", x.count(6), 99);
        Due.is("lies", x.of(0, 4), 3);
    }

    private static void aFullTape() {
        LeftGloves x = new LeftGloves();
        Due.is("signs alone", Due.text(x, ";".repeat(120)), -1);
        Due.is("digits alone", Due.text(x, "9".repeat(120)), -1);
        Due.is("letters alone", Due.text(x, "g".repeat(120)), -1);
        Due.is("blanks and a fault", Due.text(x, " ".repeat(119) + "!"), -120);
        Due.is("blanks and too few", Due.text(x, "lady;" + " ".repeat(115)), -121);
        Due.is("one lady", Due.text(x, " ".repeat(116) + "lady"), 1);
        Due.is("noughts", Due.text(x, "lady in " + "0".repeat(111) + "5"), 1);
        Due.is("in 5", x.of(1, 1), 5);
        Due.is("too great", Due.text(x, "lady in 1" + "0".repeat(111)), -9);
        Due.is("eight sayings", Due.text(x, "said 0 0 0 0;".repeat(8) + "said 0 0 0 1"), 9);
    }
}
