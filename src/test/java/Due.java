/** What the tests share: answers are compared with what is due, and texts are put on the tape. */
final class Due {
    static final int BEYOND = -1000001;
    static final int FULL = -1000002;
    static final int KIND = -1000003;
    static final int NONE = -1000004;
    static final int STATE = -1000005;
    static final int MISSING = -1000006;
    static final int SIZE = -1000007;

    private static int asked = 0;
    private static int wrong = 0;

    private Due() {
    }

    static void is(String call, long got, long want) {
        asked++;
        if (got != want) {
            wrong++;
            System.out.println(call + " answered " + got + ", due is " + want);
        }
    }

    /** Every test ends with this: exit code 1 if an answer was not the one that is due. */
    static void end() {
        System.out.println(asked + " answers asked, " + wrong + " not as due");
        if (wrong != 0 || asked == 0) {
            System.exit(1);
        }
    }

    static void feed(LeftGloves x, String text) {
        int had = x.count(5);
        for (int i = 0; i < text.length(); i++) {
            is("feed of a byte", x.feed(text.charAt(i), 1), had + i + 1);
        }
    }

    static int text(LeftGloves x, String text) {
        feed(x, text);
        return x.text();
    }

    /** A club made by a text that has no fault. */
    static LeftGloves club(String... texts) {
        LeftGloves x = new LeftGloves();
        for (String text : texts) {
            int answer = text(x, text);
            if (answer < 0) {
                is("text " + text, answer, 1);
            }
        }
        return x;
    }

    /** A sheet of 32 bits with these numbers. */
    static void sheet(LeftGloves x, int s, int... numbers) {
        is("sheet", x.sheet(s, 32, numbers.length), numbers.length);
        for (int i = 0; i < numbers.length; i++) {
            is("write", x.write(s, i, numbers[i]), 1);
        }
    }
}
