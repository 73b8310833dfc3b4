import java.nio.charset.StandardCharsets;
import java.util.List;

/** Boundary cases of promises 27 to 29, and of a TEXT in the Terms. */
public final class EdgesTextTest {
    private static final int LEAST = Integer.MIN_VALUE;
    private static final int MOST = Integer.MAX_VALUE;
    private static final String[] KINDS = {"glove", "kidskin", "mitten", "lady", "burnt", "stiff", "double"};
    private static final String[] WORDS = {
        "glove", "kidskin", "mitten", "lady", "burnt", "stiff", "double", "in", "open", "knows", "lies", "said", "hand"};

    public static void main(String[] args) {
        feedBytes();
        feedFull();
        feedBeyond();
        wipe();
        tokens();
        noTokens();
        kindsAndFirsts();
        roomNumbers();
        openNumbers();
        knowsNumbers();
        liesNumbers();
        order();
        saidNumbers();
        handNumbers();
        handThatIsThere();
        items();
        tooEarly();
        ninth();
        fullTape();
        faultChangesNothing();
        Due.end();
    }

    /** THE TAPE gets a text by four bytes a call, and is read; it is empty then, and no finding came. */
    private static int read(LeftGloves x, String text) {
        int findings = x.status(-1);
        Refused.feed(x, text);
        Due.is("fed: " + text, x.count(5), text.length());
        int answer = x.text();
        Due.is("Promise 29: THE TAPE is empty then: " + text, x.count(5), 0);
        Due.is("Promise 29: no finding: " + text, x.status(-1), findings);
        return answer;
    }

    /** A text with a FAULT at a place, read by a new object and by one with gloves: nothing changes. */
    private static void fault(String told, String text, int place) {
        LeftGloves x = new LeftGloves();
        Due.is(told + " [" + text + "]", read(x, text), -1 - place);
        Due.is(told + ", nothing changes: GLOVES [" + text + "]", x.count(1), 0);
        for (int i = 0; i < 6; i++) {
            Due.is(told + ", nothing changes: place " + i + " [" + text + "]", x.said(i), 1010 * i + 5);
        }
    }

    private static LeftGloves fine(String told, String text, int items) {
        LeftGloves x = new LeftGloves();
        Due.is(told + " [" + text + "]", read(x, text), items);
        return x;
    }

    private static void feedBytes() {
        LeftGloves x = new LeftGloves();
        Due.is("Promise 27: n 1, the lowest byte alone", x.feed('l' << 24 | 'x' << 8 | 'l', 1), 1);
        Due.is("Promise 27: n 3, the highest of these first", x.feed('?' << 24 | 'a' << 16 | 'd' << 8 | 'y', 3), 4);
        Due.is("Promise 27: n 2", x.feed('?' << 24 | '?' << 16 | ';' << 8 | ' ', 2), 6);
        Due.is("Promise 27: n 4, a number below 0", x.feed(0xe1647900 | 'z', 4), 10);
        Due.is("Promise 27: byte 6 begins no TOKEN, the highest of four came first", x.text(), -7);
        LeftGloves y = new LeftGloves();
        Due.is("Promise 27: n 4, all four bytes", y.feed('l' << 24 | 'a' << 16 | 'd' << 8 | 'y', 4), 4);
        Due.is("Promise 27: they are read in that order", y.text(), 1);
        Due.is("Promise 27: a LADY", y.of(0, 0), 3);
        for (int b = -1; b < 2; b++) {
            Due.is("Promise 27: any byte is fed", y.feed(b, 1), b + 2);
        }
        Due.is("Promise 27: bytes -1, 0, 1 are no TEXT", y.text(), -1);
    }

    private static void feedFull() {
        for (int n = 1; n < 5; n++) {
            LeftGloves x = new LeftGloves();
            Refused.feed(x, " ".repeat(120 - n));
            Due.is("Promise 27: just 120 bytes, n " + n, x.feed(0x20202020, n), 120);
            Due.is("Promise 27, FULL: no 121st byte, n " + n, x.feed(32, 1), Due.FULL);
            LeftGloves y = new LeftGloves();
            Refused.feed(y, " ".repeat(121 - n));
            Due.is("Promise 27, FULL: 121 bytes, n " + n, y.feed(0x20202020, n), Due.FULL);
            Due.is("Promise 27, FULL: none of them came, n " + n, y.count(5), 121 - n);
            Due.is("Promise 27, FULL: counted", y.status(1) * 10 + y.status(-1), 11);
            int asked = n;
            Refused.is("Promise 27, FULL: 120 bytes are there, n " + n, Refused::full, Due.FULL, c -> c.feed('x', asked));
        }
        LeftGloves x = Refused.full();
        x.text();
        Due.is("Promise 27: behind text() there is a place again", x.feed(32, 1), 1);
    }

    private static void feedBeyond() {
        int[] beyond = {0, -1, 5, 6, LEAST, MOST};
        for (int n : beyond) {
            Refused.everywhere("Promise 27, BEYOND, also where it is FULL: n " + n, Due.BEYOND, c -> c.feed(32, n));
        }
    }

    private static void wipe() {
        LeftGloves x = new LeftGloves();
        Due.is("Promise 28: it had none", x.wipe(), 0);
        Refused.feed(x, ";".repeat(120));
        Due.is("Promise 28: it had 120", x.wipe(), 120);
        Due.is("Promise 28: THE TAPE is empty", x.count(5), 0);
        Due.is("Promise 28: it had none again", x.wipe(), 0);
        Due.is("Promise 28: there is a place again", x.feed(32, 4), 4);
        Due.is("Promise 28: it had 4", x.wipe(), 4);
        Due.is("Promise 28: nothing is left of them: an empty TEXT", x.text(), -1);
    }

    private static void tokens() {
        fault("Terms, TEXT: a WORD as long as can be", "ladyin5", 0);
        LeftGloves x = fine("Terms, TEXT: no blanks about NUMBERS", "lady in5open9knows7lies3", 1);
        Due.is("Terms, TEXT: ROOM", x.of(0, 1), 5);
        Due.is("Terms, TEXT: OPEN", x.of(0, 2), 9);
        Due.is("Terms, TEXT: KNOWS", x.of(0, 3), 7);
        Due.is("Terms, TEXT: LIES", x.of(0, 4), 3);
        fine("Terms, TEXT: blanks about the SIGN", "lady  ;  lady", 2);
        fine("Terms, TEXT: no blanks about the SIGN", "lady;lady", 2);
        fine("Terms, TEXT: blanks ahead and behind", "   lady   ", 1);
        fault("Terms, TEXT: a WORD as long as can be", "ladylady", 0);
        fault("Terms, TEXT: a WORD as long as can be", "glovein 3", 0);
        fault("Terms, TEXT: a WORD as long as can be", "lady inn 3", 5);
        fault("Terms, TEXT: blanks part a WORD", "gl ove", 0);
        fault("Terms, TEXT: a WORD cut short", "glov", 0);
        fault("Terms, TEXT: a WORD cut short", "doubl", 0);
        fault("Terms, TEXT: NUMBERS touch and are one", "said 0000", 5 + 4);
        fault("Terms, TEXT: a NUMBER as long as can be", "lady in 55", 8);
        fault("Terms, TEXT: blanks part a NUMBER", "lady open 1 0", 12);
        fine("Terms, TEXT: noughts ahead of a NUMBER", "lady in 000005 open 0000000009", 1);
        fault("Terms, TEXT: NUMBERS are 99999 at most", "lady knows 100000", 11);
        fault("Terms, TEXT: NUMBERS are 99999 at most, 2^32", "lady knows 4294967296", 11);
        fault("Terms, TEXT: NUMBERS are 99999 at most, 2^64", "lady lies 18446744073709551616", 10);
    }

    private static void noTokens() {
        int[] bytes = {0, 1, 8, 9, 10, 13, 31, 33, 34, 43, 44, 45, 46, 47, 58, 60, 64, 65, 71, 90, 91, 96, 123, 127, 128, 160, 255};
        for (int b : bytes) {
            String sign = new String(new byte[] {(byte) b}, StandardCharsets.ISO_8859_1);
            fault("Terms, FAULT: byte " + b + " begins no TOKEN, at the begin", sign + "lady", 0);
            fault("Terms, FAULT: byte " + b + " begins no TOKEN, behind a WORD", "lady" + sign, 4);
            fault("Terms, FAULT: byte " + b + " begins no TOKEN, behind a NUMBER", "lady in 3" + sign, 9);
            fault("Terms, FAULT: byte " + b + " begins no TOKEN, for a NUMBER", "lady in " + sign, 8);
            fault("Terms, FAULT: byte " + b + " begins no TOKEN, behind the SIGN", "lady;" + sign, 5);
        }
        fault("Terms, FAULT: the first TOKEN that can't stand there, not the byte behind it", "lady 3 !", 5);
        fault("Terms, FAULT: the byte, not the TOKEN behind it", "lady ! 3", 5);
        fault("Terms, TEXT: a and z are letters", "lady in 3;glovea", 10);
        fault("Terms, TEXT: a and z are letters", "lady in 3;glovez", 10);
        fine("Terms, TEXT: 0 and 9 are digits", "lady open 0;lady open 9", 2);
    }

    private static void kindsAndFirsts() {
        for (int kind = 0; kind < 7; kind++) {
            LeftGloves x = fine("Terms, ITEM: the WORD alone", KINDS[kind], 1);
            int[] first = {kind, 0, 5, 0, 0, 0, 0};
            for (int what = 0; what < 7; what++) {
                Due.is("Terms, ITEM: " + KINDS[kind] + ", as at first, ROOM 0, what " + what, x.of(0, what), first[what]);
            }
            LeftGloves y = fine("Terms, ITEM: all that it can tell", KINDS[kind] + " in 5 open 9 knows 65535 lies 9999", 1);
            int[] told = {kind, 5, 9, 65535, 9999, 0, 0};
            for (int what = 0; what < 7; what++) {
                Due.is("Terms, ITEM: " + KINDS[kind] + " as told, what " + what, y.of(0, what), told[what]);
            }
        }
        String[] others = {"sock", "in", "open", "knows", "lies", "gloves", "ladies", "a", "z", "x"};
        for (String word : others) {
            fault("Terms, FAULT: another WORD", word, 0);
            fault("Terms, FAULT: another WORD behind the SIGN", "lady;" + word, 5);
        }
        for (String word : WORDS) {
            for (int i = 0; i < word.length(); i++) {
                char next = word.charAt(i) == 'z' ? 'a' : (char) (word.charAt(i) + 1);
                String other = word.substring(0, i) + next + word.substring(i + 1);
                misspelt(word, other);
                misspelt(word, word.substring(0, i) + word.substring(i + 1));
            }
            misspelt(word, word + "s");
            misspelt(word, "s" + word);
        }
        fault("Terms, FAULT: a NUMBER for an ITEM", "0", 0);
        fault("Terms, FAULT: a SIGN for an ITEM", ";lady", 0);
    }

    /** A WORD that isn't quite the one that is due, put where that one may stand. */
    private static void misspelt(String word, String other) {
        if (other.isEmpty() || List.of(WORDS).contains(other)) {
            return;
        }
        boolean trait = List.of("in", "open", "knows", "lies").contains(word);
        fault("Terms, FAULT: another WORD than " + word, trait ? "lady " + other + " 1" : other, trait ? 5 : 0);
    }

    private static void roomNumbers() {
        for (int room = 0; room < 6; room++) {
            Due.is("Terms, ITEM: in a ROOM", fine("Terms, ITEM: ROOM", "lady in " + room, 1).of(0, 1), room);
        }
        fault("Terms, FAULT: ROOM 6", "lady in 6", 8);
        fault("Terms, FAULT: ROOM 99999", "lady in 99999", 8);
        fault("Terms, FAULT: a WORD for a ROOM", "lady in open 3", 8);
        fault("Terms, FAULT: a SIGN for a ROOM", "lady in;lady", 7);
        fault("Terms, FAULT: -1 for a ROOM", "lady in -1", 8);
    }

    private static void openNumbers() {
        Due.is("Terms, ITEM: OPEN 0", fine("Terms, ITEM: OPEN", "lady open 0", 1).of(0, 2), 0);
        Due.is("Terms, ITEM: OPEN 9", fine("Terms, ITEM: OPEN", "lady open 9", 1).of(0, 2), 9);
        fault("Terms, FAULT: OPEN 10", "lady open 10", 10);
        fault("Terms, FAULT: a WORD for OPEN", "lady open lies 3", 10);
        fault("Terms, FAULT: a SIGN for OPEN", "lady open ;", 10);
    }

    private static void knowsNumbers() {
        Due.is("Terms, ITEM: KNOWS 0", fine("Terms, ITEM: KNOWS", "lady knows 0", 1).of(0, 3), 0);
        Due.is("Terms, ITEM: KNOWS 65535", fine("Terms, ITEM: KNOWS", "lady knows 65535", 1).of(0, 3), 65535);
        fault("Terms, FAULT: KNOWS 65536", "lady knows 65536", 11);
        fault("Terms, FAULT: KNOWS 99999", "lady knows 99999", 11);
        fault("Terms, FAULT: a WORD for KNOWS", "lady knows glove", 11);
    }

    private static void liesNumbers() {
        Due.is("Terms, ITEM: LIES 0", fine("Terms, ITEM: LIES", "lady lies 0", 1).of(0, 4), 0);
        Due.is("Terms, ITEM: LIES 9999", fine("Terms, ITEM: LIES", "lady lies 9999", 1).of(0, 4), 9999);
        fault("Terms, FAULT: LIES 10000", "lady lies 10000", 10);
        fault("Terms, FAULT: a WORD for LIES", "lady lies in 3", 10);
    }

    private static void order() {
        fine("Terms, ITEM: in, then lies", "lady in 1 lies 2", 1);
        fine("Terms, ITEM: open, then knows", "lady open 1 knows 2", 1);
        fine("Terms, ITEM: in, then knows", "lady in 1 knows 2", 1);
        fault("Terms, FAULT: open ahead of in", "lady open 1 in 1", 12);
        fault("Terms, FAULT: knows ahead of open", "lady knows 1 open 1", 13);
        fault("Terms, FAULT: knows ahead of in", "lady knows 1 in 1", 13);
        fault("Terms, FAULT: lies ahead of knows", "lady lies 1 knows 1", 12);
        fault("Terms, FAULT: lies ahead of in", "lady lies 1 in 1", 12);
        fault("Terms, FAULT: in twice", "lady in 1 in 1", 10);
        fault("Terms, FAULT: open twice", "lady open 1 open 1", 12);
        fault("Terms, FAULT: knows twice", "lady knows 1 knows 1", 13);
        fault("Terms, FAULT: lies twice", "lady lies 1 lies 1", 12);
        fault("Terms, FAULT: a NUMBER too many", "lady in 1 1", 10);
        fault("Terms, FAULT: a NUMBER with no WORD", "lady 1", 5);
    }

    private static void saidNumbers() {
        LeftGloves x = fine("Terms, ITEM: said, the greatest", "said 5 5 15 9", 1);
        Due.is("Terms, ITEM: place 5", x.said(5), 5159);
        LeftGloves y = fine("Terms, ITEM: said, the least", "said 0 0 0 0", 1);
        Due.is("Terms, ITEM: place 0", y.said(0), 0);
        Due.is("Terms, ITEM: place 1 stays", y.said(1), 1015);
        fault("Terms, FAULT: place 6", "said 6 0 0 0", 5);
        fault("Terms, FAULT: ROOM 6", "said 5 6 0 0", 7);
        fault("Terms, FAULT: TOPIC 16", "said 5 5 16 0", 9);
        fault("Terms, FAULT: LOUD 10", "said 5 5 15 10", 12);
        fault("Terms, FAULT: a fifth NUMBER", "said 5 5 15 9 0", 14);
        fault("Terms, FAULT: three NUMBERS and the SIGN", "said 5 5 15;lady", 11);
        fault("Terms, FAULT: in can't stand there", "said 5 5 15 9 in 3", 14);
        fault("Terms, FAULT: the first of two", "said 6 6 16 10", 5);
    }

    private static void handNumbers() {
        Due.is("Terms, ITEM: its HAND KNOWS 0", fine("Terms, ITEM: hand", "lady;hand 0 7;hand 0 0", 3).of(0, 5), 0);
        Due.is("Terms, ITEM: its HAND KNOWS 65535", fine("Terms, ITEM: hand", "lady;hand 0 65535", 2).of(0, 5), 65535);
        fault("Terms, FAULT: its HAND KNOWS 65536", "lady;hand 0 65536", 12);
        fault("Terms, FAULT: a third NUMBER", "lady;hand 0 1 1", 14);
        fault("Terms, FAULT: a WORD for a GLOVE", "lady;hand lady 1", 10);
        fault("Terms, FAULT: the SIGN for what its HAND KNOWS", "lady;hand 0;lady", 11);
    }

    private static void handThatIsThere() {
        fault("Terms, FAULT: no GLOVE is there", "hand 0 1", 5);
        fault("Terms, FAULT: the GLOVE isn't there yet", "hand 0 1;lady", 5);
        fault("Terms, FAULT: GLOVE 1 isn't there", "lady;hand 1 1", 10);
        fault("Terms, FAULT: GLOVE 1 isn't there yet", "lady;hand 1 1;lady", 10);
        LeftGloves x = fine("Terms, ITEM: one that this TEXT told", "lady;lady;hand 1 9;hand 0 3", 4);
        Due.is("Terms, ITEM: HANDS", x.of(0, 5) * 10 + x.of(1, 5), 39);
        LeftGloves y = Refused.full();
        y.text();
        y.undo();
        y.wipe();
        Due.is("Terms, ITEM: the eighth one is there", read(y, "hand 7 5"), 1);
        Due.is("Terms, ITEM: its HAND", y.of(7, 5), 5);
        Due.is("Terms, FAULT: number 8 never is", read(y, "hand 8 5"), -6);
        LeftGloves z = new LeftGloves();
        z.image();
        z.glove(0, 0);
        z.undo();
        Due.is("Terms, FAULT: one that undo() took back isn't there", read(z, "hand 0 1"), -6);
    }

    private static void items() {
        LeftGloves x = fine("Promise 29: how many ITEMS", "said 1 1 1 1;said 1 2 2 2;said 2 0 0 0", 3);
        Due.is("Promise 29: item by item: the later one counts", x.said(1), 2022);
        LeftGloves y = new LeftGloves();
        Due.is("Promise 29: eight ITEMS", read(y, "lady;glove;stiff;burnt;mitten;double;kidskin;lady"), 8);
        int[] kinds = {3, 0, 5, 4, 2, 6, 1, 3};
        for (int glove = 0; glove < 8; glove++) {
            Due.is("Promise 29: GLOVES by numbers, " + glove, y.of(glove, 0), kinds[glove]);
        }
        Due.is("Promise 29: 13 ITEMS in 120 bytes or less", read(y, "hand 0 1;".repeat(12) + "hand 0 2"), 13);
        Due.is("Promise 29: the last one counts", y.of(0, 5), 2);
    }

    private static void tooEarly() {
        fault("Terms, FAULT: it ends too early, empty", "", 0);
        fault("Terms, FAULT: it ends too early, a blank", " ", 1);
        fault("Terms, FAULT: it ends too early, behind the SIGN", "lady;", 5);
        fault("Terms, FAULT: it ends too early, behind blanks", "lady;  ", 7);
        String[] texts = {"lady in", "lady open", "lady knows", "lady lies", "said", "said 0", "said 0 0", "said 0 0 0",
            "lady;hand", "lady;hand 0"};
        for (String text : texts) {
            fault("Terms, FAULT: how many bytes there are", text, text.length());
            fault("Terms, FAULT: how many bytes there are, blanks, too", text + "   ", text.length() + 3);
        }
        fault("Terms, FAULT: two SIGNS", "lady;;lady", 5);
        fault("Terms, FAULT: no SIGN", "lady lady", 5);
        fault("Terms, FAULT: no SIGN ahead of said", "lady said 0 0 0 0", 5);
    }

    private static void ninth() {
        LeftGloves x = Refused.full();
        x.wipe();
        for (String word : KINDS) {
            Due.is("Terms, FAULT: the WORD of a 9th GLOVE: its own", read(x, " " + word + " in 1"), -2);
        }
        Due.is("Terms, FAULT: another WORD, though there are eight", read(x, "sock"), -1);
        Due.is("Terms, ITEM: said and hand are fine, though there are eight", read(x, "said 0 0 0 0;hand 7 0"), 2);
        LeftGloves y = new LeftGloves();
        for (int glove = 0; glove < 6; glove++) {
            y.glove(0, 0);
        }
        Due.is("Terms, FAULT: a 7th, an 8th, and the WORD of a 9th", read(y, "lady; lady in 6"), -1 - 14);
        Due.is("Terms, FAULT: six, a 7th, an 8th and a 9th", read(y, "lady;lady;said 0 0 0 0;lady"), -1 - 23);
        Due.is("Promise 29: nothing changes", y.count(1) * 10000 + y.said(0), 60005);
        Due.is("Promise 29: a 7th and an 8th", read(y, "lady;lady"), 2);
        Due.is("Promise 29: there are eight", y.count(1), 8);
    }

    private static void fullTape() {
        fine("Terms, THE TAPE: 120 bytes, the last ones a WORD", " ".repeat(116) + "lady", 1);
        fault("Terms, THE TAPE: 120 bytes, the last one no TOKEN", " ".repeat(119) + "?", 119);
        fault("Terms, THE TAPE: 120 blanks", " ".repeat(120), 120);
        fault("Terms, THE TAPE: 120 letters", "z".repeat(120), 0);
        fault("Terms, THE TAPE: 120 digits", "0".repeat(120), 0);
        fault("Terms, THE TAPE: 120 SIGNS", ";".repeat(120), 0);
        fault("Terms, THE TAPE: 120 bytes that begin no TOKEN", "\0".repeat(120), 0);
        LeftGloves x = fine("Terms, THE TAPE: a NUMBER to the last byte", "lady in " + "0".repeat(111) + "5", 1);
        Due.is("Terms, THE TAPE: ROOM 5", x.of(0, 1), 5);
        fault("Terms, THE TAPE: a NUMBER too great to the last byte", "lady in " + "9".repeat(112), 8);
        fault("Terms, THE TAPE: it ends too early behind 120 bytes", "lady" + " ".repeat(115) + ";", 120);
        LeftGloves y = new LeftGloves();
        Due.is("Terms, THE TAPE: 60 pairs of TOKENS", read(y, "a;".repeat(60)), -1);
        Due.is("Terms, THE TAPE: 120 TOKENS", read(y, "a0".repeat(60)), -1);
    }

    private static void faultChangesNothing() {
        LeftGloves x = Refused.some();
        LeftGloves y = Refused.some();
        x.wipe();
        y.wipe();
        Due.is("Promise 29: a FAULT in the last ITEM", read(x, "stiff in 5;hand 0 9;said 0 5 5 5;hand 4 8;said 0 0 0 10"), -1 - 53);
        for (int what = 0; what < 8; what++) {
            Due.is("Promise 29: with a FAULT nothing changes, count " + what, x.count(what), y.count(what));
        }
        for (int glove = 0; glove < 4; glove++) {
            for (int what = 0; what < 7; what++) {
                Due.is("Promise 29: with a FAULT nothing changes, of " + glove + " " + what, x.of(glove, what), y.of(glove, what));
            }
        }
        Due.is("Promise 29: with a FAULT nothing changes, said 0", x.said(0), y.said(0));
        x.undo();
        y.undo();
        Due.is("Promise 29: nor does what is kept", x.count(1) * 100 + x.now(0), y.count(1) * 100 + y.now(0));
        Due.is("Promise 29: -1 less a FAULT is no finding", x.status(-1), y.status(-1));
    }
}
