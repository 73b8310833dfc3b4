import java.math.BigInteger;
import java.util.ArrayList;
import java.util.Arrays;
import java.util.BitSet;
import java.util.Collections;
import java.util.List;
import java.util.TreeSet;
import java.util.regex.Matcher;
import java.util.regex.Pattern;

/**
 * The document told a second time, in another way than the class: kinds are a tree of classes, sets are
 * sets, a state is copied whole for every question. It is slow, and only ModelTest uses it.
 */
final class Model {
    static class Kind {
        int needs(One one, boolean company) { return 10 - one.open; }
        int hushes(One one) { return 0; }
        int stays() { return 7; }
        int keeps() { return 6; }
    }

    static class Kidskin extends Kind {
        @Override int needs(One one, boolean company) { return Math.max(0, super.needs(one, company) - 2); }
        @Override int hushes(One one) { return 1; }
        @Override int stays() { return super.stays() - 2; }
        @Override int keeps() { return super.keeps() + 2; }
    }

    static final class Double extends Kidskin {
        @Override int needs(One one, boolean company) { return company ? 1 : super.needs(one, company); }
        @Override int hushes(One one) { return 2 * super.hushes(one); }
        @Override int keeps() { return super.keeps() + 2; }
    }

    static class Mitten extends Kind {
        @Override int needs(One one, boolean company) { return super.needs(one, company) + 3; }
        @Override int stays() { return 2 * super.stays(); }
        @Override int keeps() { return super.keeps() / 2; }
    }

    static class Lady extends Mitten {
        @Override int needs(One one, boolean company) { return Math.max(0, super.needs(one, company) - 4); }
        @Override int hushes(One one) { return super.hushes(one) + 1; }
    }

    static final class Burnt extends Lady {
        @Override int needs(One one, boolean company) { return 99; }
        @Override int hushes(One one) { return 0; }
        @Override int stays() { return 0; }
    }

    static final class Stiff extends Kind {
        @Override int needs(One one, boolean company) { return 0; }
        @Override int hushes(One one) { return super.hushes(one) + (one.lies >= 100 ? 1 : 0); }
        @Override int stays() { return 0; }
        @Override int keeps() { return 16; }
    }

    private static final List<Kind> KINDS = List.of(
        new Kind(), new Kidskin(), new Mitten(), new Lady(), new Burnt(), new Stiff(), new Double());
    private static final List<String> WORDS = List.of(
        "glove", "kidskin", "mitten", "lady", "burnt", "stiff", "double");

    static final class One {
        int kind;
        int room;
        int open = 5;
        TreeSet<Integer> knows = new TreeSet<>();
        int lies;
        TreeSet<Integer> hand = new TreeSet<>();
        int drawn;

        One copy() {
            One other = new One();
            other.kind = kind;
            other.room = room;
            other.open = open;
            other.knows = new TreeSet<>(knows);
            other.lies = lies;
            other.hand = new TreeSet<>(hand);
            other.drawn = drawn;
            return other;
        }

        Kind kind() {
            return KINDS.get(kind);
        }

        void drawOn() {
            hand.addAll(knows);
            knows.clear();
            lies = 0;
            drawn = Math.min(9999, drawn + 1);
            room = room == 5 ? 0 : room + 1;
        }

        void set(int what, int v) {
            switch (what) {
                case 0: kind = v; break;
                case 1: room = v; break;
                case 2: open = v; break;
                case 3: knows = setOf(v); break;
                case 4: lies = v; break;
                case 5: hand = setOf(v); break;
                case 6: drawn = v; break;
                default: throw new IllegalArgumentException();
            }
        }
    }

    static final class State {
        List<One> gloves = new ArrayList<>();
        int[][] list = new int[6][];
        int day;
        int z = 1;
        Integer[] spots = new Integer[10];

        State() {
            for (int i = 0; i < 6; i++) {
                list[i] = new int[] {i, i, 5};
            }
        }

        State copy() {
            State other = new State();
            for (One one : gloves) {
                other.gloves.add(one.copy());
            }
            for (int i = 0; i < 6; i++) {
                other.list[i] = list[i].clone();
            }
            other.day = day;
            other.z = z;
            other.spots = spots.clone();
            return other;
        }

        /** Without some gloves; the others keep their order. */
        State without(int away) {
            State other = copy();
            other.gloves.clear();
            for (int g = 0; g < gloves.size(); g++) {
                if ((away & 1 << g) == 0) {
                    other.gloves.add(gloves.get(g).copy());
                }
            }
            return other;
        }

        int needs(One one) {
            boolean company = false;
            for (One other : gloves) {
                company |= other != one && other.room == one.room;
            }
            return one.kind().needs(one, company);
        }

        int hush(int room) {
            int hush = 0;
            for (One one : gloves) {
                hush += one.room == room ? one.kind().hushes(one) : 0;
            }
            return hush;
        }

        List<One> hearers(int room, int loud) {
            int said = Math.max(0, loud - hush(room));
            List<One> hearers = new ArrayList<>();
            for (One one : gloves) {
                int needs = needs(one);
                if (one.room == room && needs <= said && (said > 0 || needs == 0)) {
                    hearers.add(one);
                }
            }
            return hearers;
        }

        State day() {
            int[] saying = list[day % 6];
            for (One one : hearers(saying[0], saying[2])) {
                one.knows.add(saying[1]);
                if (one.knows.size() > one.kind().keeps()) {
                    TreeSet<Integer> others = new TreeSet<>(one.knows);
                    others.remove(saying[1]);
                    one.knows.remove(others.first());
                }
            }
            for (One one : gloves) {
                one.lies = Math.min(9999, one.lies + 1);
                int stays = one.kind().stays();
                if (stays > 0 && one.lies >= stays) {
                    one.drawOn();
                }
            }
            day = Math.min(99999, day + 1);
            return this;
        }

        State days(int n) {
            for (int i = 0; i < n; i++) {
                day();
            }
            return this;
        }

        TreeSet<Integer> known(boolean byGloves, boolean byHands) {
            TreeSet<Integer> all = new TreeSet<>();
            for (One one : gloves) {
                if (byGloves) {
                    all.addAll(one.knows);
                }
                if (byHands) {
                    all.addAll(one.hand);
                }
            }
            return all;
        }

        int drawn() {
            return gloves.stream().mapToInt(one -> one.drawn).sum();
        }

        int rest(int divisor) {
            BigInteger next = BigInteger.valueOf(z).multiply(BigInteger.valueOf(1103515245)).add(BigInteger.valueOf(12345));
            z = next.intValue();
            return (int) ((z & 0xffffffffL) / 256 % divisor);
        }
    }

    static TreeSet<Integer> setOf(int bits) {
        TreeSet<Integer> set = new TreeSet<>();
        BitSet.valueOf(new long[] {bits}).stream().forEach(set::add);
        return set;
    }

    static int bits(Iterable<Integer> set) {
        int bits = 0;
        for (int member : set) {
            bits += 1 << member;
        }
        return bits;
    }

    private State state = new State();
    private State kept;
    private final StringBuilder tape = new StringBuilder();
    private final int[][] sheets = new int[4][];
    private final int[] sheetBits = new int[4];
    private final int[] findings = new int[7];

    private int tell(int finding) {
        findings[Due.BEYOND - finding]++;
        return finding;
    }

    private boolean noGlove(int glove) {
        return glove < 0 || glove >= state.gloves.size();
    }

    private static boolean out(int v, int least, int most) {
        return v < least || v > most;
    }

    private static int[] sayingOf(int number) {
        for (int room = 0; room < 6; room++) {
            for (int topic = 0; topic < 16; topic++) {
                int loud = number - 1000 * room - 10 * topic;
                if (loud >= 0 && loud <= 9) {
                    return new int[] {room, topic, loud};
                }
            }
        }
        return null;
    }

    private static int numberOf(int[] saying) {
        return 1000 * saying[0] + 10 * saying[1] + saying[2];
    }

    int say(int i, int saying) {
        if (out(i, 0, 5) || sayingOf(saying) == null) {
            return tell(Due.BEYOND);
        }
        int was = numberOf(state.list[i]);
        state.list[i] = sayingOf(saying);
        return was;
    }

    int said(int i) {
        return out(i, 0, 5) ? tell(Due.BEYOND) : numberOf(state.list[i]);
    }

    int room(int room, int what) {
        if (out(room, 0, 5) || out(what, 0, 3)) {
            return tell(Due.BEYOND);
        }
        TreeSet<Integer> answer = new TreeSet<>();
        for (int g = 0; g < state.gloves.size(); g++) {
            One one = state.gloves.get(g);
            if (one.room == room && what == 0) {
                answer.add(g);
            }
            if (one.room == room && what == 2) {
                answer.addAll(one.knows);
            }
        }
        for (int[] saying : state.list) {
            if (saying[0] == room && what == 3) {
                answer.add(saying[1]);
            }
        }
        return what == 1 ? state.hush(room) : bits(answer);
    }

    int glove(int kind, int room) {
        if (out(kind, 0, 6) || out(room, 0, 5)) {
            return tell(Due.BEYOND);
        }
        if (state.gloves.size() == 8) {
            return tell(Due.FULL);
        }
        One one = new One();
        one.kind = kind;
        one.room = room;
        state.gloves.add(one);
        return state.gloves.size() - 1;
    }

    private static int trait(State state, int glove, int what) {
        One one = state.gloves.get(glove);
        int[] traits = {one.kind, one.room, one.open, bits(one.knows), one.lies, bits(one.hand), one.drawn,
            state.needs(one), one.kind().hushes(one), one.kind().stays(), one.kind().keeps()};
        return traits[what];
    }

    int of(int glove, int what) {
        return noGlove(glove) || out(what, 0, 10) ? tell(Due.BEYOND) : trait(state, glove, what);
    }

    int change(int glove, int what, int v) {
        int[] most = {6, 5, 9, 65535, 9999, 65535, 9999};
        if (noGlove(glove) || out(what, 0, 6) || out(v, 0, most[what])) {
            return tell(Due.BEYOND);
        }
        int was = trait(state, glove, what);
        state.gloves.get(glove).set(what, v);
        return was;
    }

    int draw(int glove) {
        if (noGlove(glove)) {
            return tell(Due.BEYOND);
        }
        One one = state.gloves.get(glove);
        if (one.kind().stays() == 0) {
            return tell(Due.STATE);
        }
        one.drawOn();
        return bits(one.hand);
    }

    int who(int topic, int hand) {
        if (out(topic, 0, 15) || out(hand, 0, 1)) {
            return tell(Due.BEYOND);
        }
        int set = 0;
        for (int g = 0; g < state.gloves.size(); g++) {
            One one = state.gloves.get(g);
            set += (hand == 1 ? one.hand : one.knows).contains(topic) ? 1 << g : 0;
        }
        return set;
    }

    int go(int n) {
        if (out(n, 1, 60)) {
            return tell(Due.BEYOND);
        }
        if (state.day + n > 99999) {
            return tell(Due.STATE);
        }
        return bits(state.days(n).known(true, false));
    }

    int now(int what) {
        switch (what) {
            case 0: return state.day;
            case 1: return bits(state.known(true, false));
            case 2: return bits(state.known(false, true));
            case 3: return 65535 - bits(state.known(true, true));
            case 4: return state.drawn();
            case 5: {
                List<Integer> sizes = new ArrayList<>();
                state.gloves.forEach(one -> sizes.add(one.hand.size()));
                return sizes.isEmpty() ? -1 : sizes.indexOf(Collections.max(sizes));
            }
            case 6: {
                int[] saying = state.list[state.day % 6];
                int set = 0;
                for (One one : state.hearers(saying[0], saying[2])) {
                    set += 1 << state.gloves.indexOf(one);
                }
                return set;
            }
            default: return tell(Due.BEYOND);
        }
    }

    int ahead(int glove, int what, int n) {
        if (noGlove(glove) || !List.of(1, 3, 4, 5, 6).contains(what) || out(n, 0, 100)) {
            return tell(Due.BEYOND);
        }
        return trait(state.copy().days(n), glove, what);
    }

    int hears(int glove, int topic) {
        if (noGlove(glove) || out(topic, 0, 15)) {
            return tell(Due.BEYOND);
        }
        State then = state.copy();
        for (int d = 0; d <= 200; d++, then.day()) {
            if (then.gloves.get(glove).knows.contains(topic)) {
                return d;
            }
        }
        return tell(Due.NONE);
    }

    int wise(int glove, int v) {
        if (noGlove(glove) || out(v, 0, 16)) {
            return tell(Due.BEYOND);
        }
        State then = state.copy();
        for (int d = 0; d <= 200; d++, then.day()) {
            if (then.gloves.get(glove).hand.size() >= v) {
                return d;
            }
        }
        return tell(Due.NONE);
    }

    int out(int topics) {
        if (out(topics, 0, 65535)) {
            return tell(Due.BEYOND);
        }
        State then = state.copy();
        for (int d = 0; d <= 200; d++, then.day()) {
            if (then.known(true, true).containsAll(setOf(topics))) {
                return d;
            }
        }
        return tell(Due.NONE);
    }

    private int handBehind(int glove, int what, int v, int n) {
        State then = state.copy();
        then.gloves.get(glove).set(what, v);
        return then.days(n).gloves.get(glove).hand.size();
    }

    private int best(int glove, int what, int values, int n) {
        List<Integer> sizes = new ArrayList<>();
        for (int v = 0; v < values; v++) {
            sizes.add(handBehind(glove, what, v, n));
        }
        return sizes.indexOf(Collections.max(sizes));
    }

    int leave(int glove, int n) {
        return noGlove(glove) || out(n, 0, 60) ? tell(Due.BEYOND) : best(glove, 1, 6, n);
    }

    int openFor(int glove, int v, int n) {
        if (noGlove(glove) || out(v, 0, 16) || out(n, 0, 60)) {
            return tell(Due.BEYOND);
        }
        for (int open = 0; open <= 9; open++) {
            if (handBehind(glove, 2, open, n) >= v) {
                return open;
            }
        }
        return tell(Due.NONE);
    }

    int kindFor(int glove, int n) {
        return noGlove(glove) || out(n, 0, 60) ? tell(Due.BEYOND) : best(glove, 0, 7, n);
    }

    int lower(int i) {
        if (out(i, 0, 5)) {
            return tell(Due.BEYOND);
        }
        int greatest = -1;
        for (int loud = 0; loud <= 9; loud++) {
            greatest = state.hearers(state.list[i][0], loud).isEmpty() ? loud : greatest;
        }
        return greatest < 0 ? tell(Due.NONE) : greatest;
    }

    /** All sets of gloves, those of fewest first, and the least of as many first. */
    private List<Integer> setsByNumber() {
        List<Integer> sets = new ArrayList<>();
        for (int set = 0; set < 1 << state.gloves.size(); set++) {
            sets.add(set);
        }
        sets.sort((a, b) -> Integer.bitCount(a) != Integer.bitCount(b) ? Integer.bitCount(a) - Integer.bitCount(b) : a - b);
        return sets;
    }

    int cover(int topics) {
        if (out(topics, 0, 65535)) {
            return tell(Due.BEYOND);
        }
        int all = (1 << state.gloves.size()) - 1;
        for (int set : setsByNumber()) {
            if (state.without(all - set).known(true, true).containsAll(setOf(topics))) {
                return set;
            }
        }
        return tell(Due.NONE);
    }

    int away(int glove, int topic, int n) {
        if (noGlove(glove) || out(topic, 0, 15) || out(n, 0, 20)) {
            return tell(Due.BEYOND);
        }
        for (int set : setsByNumber()) {
            if ((set & 1 << glove) != 0) {
                continue;
            }
            int place = glove - Integer.bitCount(set & (1 << glove) - 1);
            One then = state.without(set).days(n).gloves.get(place);
            if (then.knows.contains(topic) || then.hand.contains(topic)) {
                return set;
            }
        }
        return tell(Due.NONE);
    }

    private int asTold(int s, int glove, int what, int values) {
        if (out(s, 0, 3)) {
            return tell(Due.BEYOND);
        }
        if (sheets[s] == null) {
            return tell(Due.MISSING);
        }
        if (noGlove(glove)) {
            return tell(Due.BEYOND);
        }
        int set = 0;
        for (int v = 0; v < values; v++) {
            State then = state.copy();
            then.gloves.get(glove).set(what, v);
            boolean so = true;
            for (int number : sheets[s]) {
                so &= number == -1 || number == bits(then.gloves.get(glove).knows);
                then.day();
            }
            set += so ? 1 << v : 0;
        }
        return set;
    }

    int fits(int s, int glove) {
        return asTold(s, glove, 1, 6);
    }

    int kinds(int s, int glove) {
        return asTold(s, glove, 0, 7);
    }

    int talk(int n) {
        if (out(n, 1, 20)) {
            return tell(Due.BEYOND);
        }
        if (state.day + n > 99999) {
            return tell(Due.STATE);
        }
        for (int i = 0; i < n; i++) {
            int[] saying = {state.rest(6), state.rest(16), state.rest(10)};
            state.list[state.day % 6] = saying;
            state.day();
        }
        return bits(state.known(true, false));
    }

    long odds(int glove, int n, int what) {
        if (noGlove(glove) || out(n, 0, 15) || out(what, 0, 1)) {
            return tell(Due.BEYOND);
        }
        BigInteger above = BigInteger.valueOf(state.gloves.get(glove).hand.size()).pow(n);
        BigInteger below = BigInteger.valueOf(16).pow(n);
        return (what == 0 ? above : below).divide(above.gcd(below)).longValueExact();
    }

    int seed(int v) {
        int was = state.z;
        state.z = v;
        return was;
    }

    int feed(int bytes, int n) {
        if (out(n, 1, 4)) {
            return tell(Due.BEYOND);
        }
        if (tape.length() + n > 120) {
            return tell(Due.FULL);
        }
        for (int i = n - 1; i >= 0; i--) {
            tape.append((char) (bytes >> 8 * i & 255));
        }
        return tape.length();
    }

    int wipe() {
        int had = tape.length();
        tape.setLength(0);
        return had;
    }

    private static final Pattern TOKEN = Pattern.compile(" *([a-z]+|[0-9]+|;|[^ ])");

    /** A fault ends the reading from wherever it is. */
    private static final class Fault extends RuntimeException {
        private static final long serialVersionUID = 1L;
        final int place;

        Fault(int place) {
            this.place = place;
        }
    }

    private static final class Reading {
        final List<String> tokens = new ArrayList<>();
        final List<Integer> places = new ArrayList<>();
        int at;

        Reading(String text) {
            Matcher matcher = TOKEN.matcher(text);
            while (matcher.find()) {
                tokens.add(matcher.group(1));
                places.add(matcher.start(1));
            }
            tokens.add("");
            places.add(text.length());
        }

        Fault fault() {
            return new Fault(places.get(at));
        }

        boolean takes(String token) {
            boolean there = tokens.get(at).equals(token);
            at += there ? 1 : 0;
            return there;
        }

        int number(int most) {
            String token = tokens.get(at);
            if (!token.matches("[0-9]+") || new BigInteger(token).compareTo(BigInteger.valueOf(most)) > 0) {
                throw fault();
            }
            at++;
            return Integer.parseInt(token.replaceFirst("^0+(?=.)", ""));
        }
    }

    private static void item(Reading reading, State state) {
        if (reading.takes("said")) {
            int place = reading.number(5);
            state.list[place] = new int[] {reading.number(5), reading.number(15), reading.number(9)};
            return;
        }
        if (reading.takes("hand")) {
            One one = state.gloves.get(Math.max(0, reading.number(state.gloves.size() - 1)));
            one.hand = setOf(reading.number(65535));
            return;
        }
        int kind = WORDS.indexOf(reading.tokens.get(reading.at));
        if (kind < 0 || state.gloves.size() == 8) {
            throw reading.fault();
        }
        reading.at++;
        One one = new One();
        one.kind = kind;
        one.room = reading.takes("in") ? reading.number(5) : 0;
        one.open = reading.takes("open") ? reading.number(9) : 5;
        one.knows = setOf(reading.takes("knows") ? reading.number(65535) : 0);
        one.lies = reading.takes("lies") ? reading.number(9999) : 0;
        state.gloves.add(one);
    }

    int text() {
        Reading reading = new Reading(tape.toString());
        tape.setLength(0);
        State then = state.copy();
        try {
            int items = 0;
            do {
                item(reading, then);
                items++;
            } while (reading.takes(";"));
            if (!reading.takes("")) {
                throw reading.fault();
            }
            state = then;
            return items;
        } catch (Fault fault) {
            return -1 - fault.place;
        }
    }

    int hold(int spot, int glove) {
        if (out(spot, 0, 9) || glove != -1 && noGlove(glove)) {
            return tell(Due.BEYOND);
        }
        state.spots[spot] = glove == -1 ? null : glove;
        return 1;
    }

    int as(int spot, int kind) {
        if (out(spot, 0, 9) || out(kind, 0, 6)) {
            return tell(Due.BEYOND);
        }
        if (state.spots[spot] == null) {
            return tell(Due.MISSING);
        }
        Kind own = state.gloves.get(state.spots[spot]).kind();
        return KINDS.get(kind).getClass().isInstance(own) ? state.spots[spot] : tell(Due.KIND);
    }

    int sheet(int s, int bits, int n) {
        if (out(s, 0, 3) || !List.of(0, 8, 16, 32).contains(bits)) {
            return tell(Due.BEYOND);
        }
        if (n < 0) {
            return tell(Due.SIZE);
        }
        if (n > 40) {
            return tell(Due.BEYOND);
        }
        sheets[s] = bits == 0 ? null : new int[n];
        sheetBits[s] = bits;
        return bits == 0 ? 0 : n;
    }

    int write(int s, int i, int v) {
        if (out(s, 0, 3)) {
            return tell(Due.BEYOND);
        }
        if (sheets[s] == null) {
            return tell(Due.MISSING);
        }
        if (out(i, 0, sheets[s].length - 1)) {
            return tell(Due.BEYOND);
        }
        int spare = 32 - sheetBits[s];
        sheets[s][i] = v << spare >> spare;
        return 1;
    }

    int copy(int s, int from, int t, int to, int n) {
        if (out(s, 0, 3) || out(t, 0, 3)) {
            return tell(Due.BEYOND);
        }
        if (sheets[s] == null || sheets[t] == null) {
            return tell(Due.MISSING);
        }
        if (sheetBits[s] != sheetBits[t]) {
            return tell(Due.KIND);
        }
        if (from < 0 || to < 0 || n < 0 || (long) from + n > sheets[s].length || (long) to + n > sheets[t].length) {
            return tell(Due.BEYOND);
        }
        int[] were = Arrays.copyOfRange(sheets[s], from, from + n);
        for (int i = 0; i < n; i++) {
            sheets[t][to + i] = were[i];
        }
        return n;
    }

    int load(int s) {
        if (out(s, 0, 3)) {
            return tell(Due.BEYOND);
        }
        if (sheets[s] == null) {
            return tell(Due.MISSING);
        }
        for (int i = 0; i < sheets[s].length; i++) {
            if (i == 6 || sayingOf(sheets[s][i]) == null) {
                return i;
            }
            state.list[i] = sayingOf(sheets[s][i]);
        }
        return sheets[s].length;
    }

    int judge(int s) {
        if (out(s, 0, 3)) {
            return tell(Due.BEYOND);
        }
        if (sheets[s] == null) {
            return tell(Due.MISSING);
        }
        for (int i = 0; i < sheets[s].length; i++) {
            if (i >= state.gloves.size() || bits(state.gloves.get(i).hand) != sheets[s][i]) {
                return i + 1;
            }
        }
        return 0;
    }

    int image() {
        kept = state.copy();
        return 1;
    }

    int undo() {
        if (kept == null) {
            return tell(Due.NONE);
        }
        state = kept.copy();
        return state.day;
    }

    int tear() {
        int was = kept == null ? 0 : 1;
        kept = null;
        return was;
    }

    int count(int what) {
        switch (what) {
            case 0: return state.day;
            case 1: return state.gloves.size();
            case 2: return state.known(true, false).size();
            case 3: return state.known(false, true).size();
            case 4: return state.drawn();
            case 5: return tape.length();
            case 6: return state.z;
            case 7: return (int) Arrays.stream(state.spots).filter(held -> held != null).count();
            default: return tell(Due.BEYOND);
        }
    }

    int status(int which) {
        if (which == -1) {
            return Arrays.stream(findings).sum();
        }
        return out(which, 0, 6) ? tell(Due.BEYOND) : findings[which];
    }
}
