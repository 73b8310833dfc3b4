import java.util.Random;

/** All promises: long runs of calls by fixed seeds, each answer as the model's. */
public final class ModelTest {
    private static final int RUNS = 400;
    private static final int CALLS = 512;
    private static final String[] WORDS = {
        "glove", "kidskin", "mitten", "lady", "burnt", "stiff", "double", "in", "open", "knows", "lies", "said", "hand"};

    private final LeftGloves x = new LeftGloves();
    private final Model model = new Model();
    private final Random random;
    private final int run;

    private ModelTest(int run) {
        this.run = run;
        this.random = new Random(run);
    }

    public static void main(String[] args) {
        for (int run = 0; run < RUNS; run++) {
            ModelTest test = new ModelTest(run);
            for (int call = 0; call < CALLS; call++) {
                test.someCall();
            }
        }
        Due.end();
    }

    private void due(String call, long got, long want) {
        Due.is("run " + run + ": " + call, got, want);
    }

    /** Mostly 0 to most; sometimes just beyond, or anything. */
    private int upTo(int most) {
        int way = random.nextInt(40);
        if (way == 0) {
            return random.nextBoolean() ? -1 : most + 1;
        }
        if (way == 1) {
            return random.nextBoolean() ? 0 : most;
        }
        return way == 2 && random.nextInt(3) == 0 ? random.nextInt() : random.nextInt(most + 1);
    }

    private int glove() {
        return random.nextInt(30) == 0 ? random.nextInt(11) - 2 : random.nextInt(Math.max(1, model.count(1)));
    }

    private int topics() {
        return random.nextInt(20) == 0 ? upTo(65535) : random.nextInt(65536) & random.nextInt(65536) & random.nextInt(65536);
    }

    private int saying() {
        return random.nextInt(20) == 0 ? random.nextInt(7000) - 500 : 1000 * random.nextInt(6) + 10 * random.nextInt(16) + random.nextInt(10);
    }

    private void someCall() {
        switch (random.nextInt(10)) {
            case 0: listCall(); break;
            case 1: gloveCall(); break;
            case 2: dayCall(); break;
            case 3: aheadCall(); break;
            case 4: leaveCall(); break;
            case 5: drawsCall(); break;
            case 6: textCall(); break;
            case 7: sheetCall(); break;
            case 8: toldCall(); break;
            default: imageCall(); break;
        }
    }

    private void listCall() {
        int i = upTo(5);
        int saying = saying();
        int what = upTo(3);
        switch (random.nextInt(3)) {
            case 0: due("say " + i + " " + saying, x.say(i, saying), model.say(i, saying)); break;
            case 1: due("said " + i, x.said(i), model.said(i)); break;
            default: due("room " + i + " " + what, x.room(i, what), model.room(i, what)); break;
        }
    }

    private void gloveCall() {
        int glove = glove();
        int what = upTo(10);
        int[] most = {6, 5, 9, 65535, 9999, 65535, 9999};
        int trait = upTo(6);
        int v = trait == 3 || trait == 5 ? topics() : trait == 4 && random.nextBoolean() ? random.nextInt(110)
            : upTo(trait >= 0 && trait < 7 ? most[trait] : 5);
        int kind = upTo(6);
        int room = upTo(5);
        int topic = upTo(15);
        int hand = upTo(1);
        switch (random.nextInt(6)) {
            case 0: due("glove " + kind + " " + room, x.glove(kind, room), model.glove(kind, room)); break;
            case 1:
            case 2: due("of " + glove + " " + what, x.of(glove, what), model.of(glove, what)); break;
            case 3: due("change " + glove + " " + trait + " " + v, x.change(glove, trait, v), model.change(glove, trait, v)); break;
            case 4: due("draw " + glove, x.draw(glove), model.draw(glove)); break;
            default: due("who " + topic + " " + hand, x.who(topic, hand), model.who(topic, hand)); break;
        }
    }

    private void dayCall() {
        int n = random.nextInt(5) == 0 ? upTo(60) : 1 + random.nextInt(9);
        int what = upTo(6);
        if (random.nextBoolean()) {
            due("go " + n, x.go(n), model.go(n));
        } else {
            due("now " + what, x.now(what), model.now(what));
        }
    }

    private void aheadCall() {
        int glove = glove();
        int what = upTo(6);
        int n = upTo(100);
        int topic = upTo(15);
        int v = upTo(16);
        int topics = topics();
        switch (random.nextInt(4)) {
            case 0: due("ahead " + glove + " " + what + " " + n, x.ahead(glove, what, n), model.ahead(glove, what, n)); break;
            case 1: due("hears " + glove + " " + topic, x.hears(glove, topic), model.hears(glove, topic)); break;
            case 2: due("wise " + glove + " " + v, x.wise(glove, v), model.wise(glove, v)); break;
            default: due("out " + topics, x.out(topics), model.out(topics)); break;
        }
    }

    private void leaveCall() {
        int glove = glove();
        int n = upTo(60);
        int v = random.nextInt(4) == 0 ? upTo(16) : random.nextInt(5);
        int i = upTo(5);
        int topics = random.nextBoolean() ? topics() : model.now(1) | model.now(2);
        int topic = upTo(15);
        int few = upTo(20);
        switch (random.nextInt(12)) {
            case 0: due("leave " + glove + " " + n, x.leave(glove, n), model.leave(glove, n)); break;
            case 1: due("openFor " + glove + " " + v + " " + n, x.openFor(glove, v, n), model.openFor(glove, v, n)); break;
            case 2: due("kindFor " + glove + " " + n, x.kindFor(glove, n), model.kindFor(glove, n)); break;
            case 3:
            case 4:
            case 5: due("lower " + i, x.lower(i), model.lower(i)); break;
            case 6:
            case 7: due("cover " + topics, x.cover(topics), model.cover(topics)); break;
            default: due("away " + glove + " " + topic + " " + few, x.away(glove, topic, few), model.away(glove, topic, few)); break;
        }
    }

    private void drawsCall() {
        int glove = glove();
        int n = upTo(15);
        int what = upTo(1);
        int times = random.nextInt(9) == 0 ? upTo(20) : 1 + random.nextInt(3);
        int v = random.nextInt();
        switch (random.nextInt(4)) {
            case 0: due("odds " + glove + " " + n + " " + what, x.odds(glove, n, what), model.odds(glove, n, what)); break;
            case 1: due("seed " + v, x.seed(v), model.seed(v)); break;
            default: due("talk " + times, x.talk(times), model.talk(times)); break;
        }
    }

    private void textCall() {
        if (random.nextInt(12) == 0) {
            due("wipe", x.wipe(), model.wipe());
            return;
        }
        String text = random.nextInt(3) == 0 ? anyText() : goodText();
        if (random.nextInt(5) == 0 && text.length() > 0) {
            int place = random.nextInt(text.length());
            text = text.substring(0, place) + (char) random.nextInt(256) + text.substring(place + random.nextInt(2));
        }
        for (int i = 0; i < text.length(); i += 4) {
            String part = text.substring(i, Math.min(text.length(), i + 4));
            int bytes = random.nextInt() << 8 * (part.length() % 4);
            bytes = part.length() == 4 ? 0 : bytes;
            for (int k = 0; k < part.length(); k++) {
                bytes |= part.charAt(k) << 8 * (part.length() - 1 - k);
            }
            due("feed", x.feed(bytes, part.length()), model.feed(bytes, part.length()));
        }
        int n = random.nextInt(8) - 1;
        if (n < 1 || n > 4) {
            due("feed " + n, x.feed(0, n), model.feed(0, n));
        }
        if (random.nextInt(8) != 0) {
            due("text [" + text + "]", x.text(), model.text());
        }
    }

    private String anyText() {
        StringBuilder text = new StringBuilder();
        int tokens = random.nextInt(8);
        for (int i = 0; i < tokens; i++) {
            int way = random.nextInt(6);
            text.append(way < 3 ? WORDS[random.nextInt(13)] : way < 5 ? "" + random.nextInt(7) : ";");
            text.append(" ".repeat(random.nextInt(3)));
        }
        return text.toString();
    }

    private String goodText() {
        StringBuilder text = new StringBuilder();
        int items = 1 + random.nextInt(3);
        for (int i = 0; i < items; i++) {
            text.append(i > 0 ? ";" : "");
            int way = random.nextInt(4);
            if (way == 0) {
                text.append("said " + upTo(5) + " " + upTo(5) + " " + upTo(15) + " " + upTo(9));
            } else if (way == 1) {
                text.append("hand " + glove() + " " + topics());
            } else {
                text.append(WORDS[random.nextInt(7)]);
                text.append(random.nextBoolean() ? " in " + upTo(5) : "");
                text.append(random.nextBoolean() ? " open " + upTo(9) : "");
                text.append(random.nextInt(4) == 0 ? " knows " + topics() : "");
                text.append(random.nextInt(4) == 0 ? " lies " + (random.nextBoolean() ? 95 : upTo(9999)) : "");
            }
        }
        return text.toString();
    }

    private void sheetCall() {
        int s = upTo(3);
        int t = upTo(3);
        int[] bits = {0, 8, 16, 32, 32, 16, 8, 5};
        int bit = bits[random.nextInt(8)];
        int n = random.nextInt(4) == 0 ? upTo(40) : random.nextInt(9);
        int i = random.nextInt(9) - 1;
        int v = random.nextBoolean() ? saying() : random.nextInt(4) == 0 ? random.nextInt() : topics();
        int from = random.nextInt(6) - 1;
        int to = random.nextInt(6) - 1;
        int many = random.nextInt(7) - 1;
        switch (random.nextInt(8)) {
            case 0: due("sheet " + s + " " + bit + " " + n, x.sheet(s, bit, n), model.sheet(s, bit, n)); break;
            case 1:
            case 2:
            case 3: due("write " + s + " " + i + " " + v, x.write(s, i, v), model.write(s, i, v)); break;
            case 4: due("copy", x.copy(s, from, t, to, many), model.copy(s, from, t, to, many)); break;
            case 5: due("load " + s, x.load(s), model.load(s)); break;
            default: due("judge " + s, x.judge(s), model.judge(s)); break;
        }
    }

    /** Sheets that tell what will be of a glove, with gaps, so that fits and kinds have something to find. */
    private void toldCall() {
        int s = upTo(3);
        int glove = glove();
        if (random.nextBoolean() && s >= 0 && s < 4) {
            int n = 1 + random.nextInt(12);
            due("sheet", x.sheet(s, 32, n), model.sheet(s, 32, n));
            for (int i = 0; i < n; i++) {
                int v = random.nextInt(3) == 0 || model.count(1) == 0 ? -1 : model.ahead(random.nextInt(20) == 0 ? 0 : Math.max(0, Math.min(glove, model.count(1) - 1)), 3, i);
                due("write", x.write(s, i, v), model.write(s, i, v));
            }
        }
        int spot = upTo(9);
        int kind = upTo(6);
        int held = random.nextInt(5) == 0 ? -1 : glove;
        switch (random.nextInt(6)) {
            case 0:
            case 1: due("fits " + s + " " + glove, x.fits(s, glove), model.fits(s, glove)); break;
            case 2:
            case 3: due("kinds " + s + " " + glove, x.kinds(s, glove), model.kinds(s, glove)); break;
            case 4: due("hold " + spot + " " + held, x.hold(spot, held), model.hold(spot, held)); break;
            default: due("as " + spot + " " + kind, x.as(spot, kind), model.as(spot, kind)); break;
        }
    }

    private void imageCall() {
        int what = upTo(7);
        int which = random.nextInt(20) == 0 ? random.nextInt() : random.nextInt(10) - 2;
        switch (random.nextInt(12)) {
            case 0: due("image", x.image(), model.image()); break;
            case 1: due("undo", x.undo(), model.undo()); break;
            case 2:
                if (random.nextInt(4) == 0) {
                    due("tear", x.tear(), model.tear());
                }
                break;
            case 3:
            case 4:
            case 5: due("status " + which, x.status(which), model.status(which)); break;
            default: due("count " + what, x.count(what), model.count(what)); break;
        }
    }
}
