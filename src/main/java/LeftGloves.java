/** A club in which gloves are left to listen. ../shared/DOC.md says what each call promises. */
public final class LeftGloves {
    private static final int BEYOND = -1000001;
    private static final int FULL = BEYOND - 1;
    private static final int KIND = BEYOND - 2;
    private static final int NONE = BEYOND - 3;
    private static final int STATE = BEYOND - 4;
    private static final int MISSING = BEYOND - 5;
    private static final int SIZE = BEYOND - 6;
    private static final int FINDINGS = 7;

    private static final int ROOMS = 6;
    private static final int TOPICS = 16;
    private static final int ALL_TOPICS = 65535;
    private static final int LOUDEST = 9;
    private static final int WIDEST = 9;
    private static final int KINDS = 7;
    private static final int PLACES = 6;
    private static final int MOST_GLOVES = 8;
    private static final int SPOTS = 10;
    private static final int SHEETS = 4;
    private static final int MOST_NUMBERS = 40;
    private static final int MOST_BYTES = 120;
    private static final int LAST_DAY = 99999;
    private static final int FARTHEST = 200;

    /** The set of gloves that are away, where none is. */
    private static final int NOBODY = 0;
    /** What a spot holds that holds nothing. */
    private static final int NOTHING = -1;
    /** A number of a sheet that tells nothing of what a glove knows. */
    private static final int ANY = -1;

    /** The questions that can be asked of each day ahead. */
    private static final int GLOVE_KNOWS_TOPIC = 0;
    private static final int HAND_KNOWS_SO_MANY = 1;
    private static final int ALL_IS_KNOWN = 2;

    private final Club club;
    private final Club kept;
    /** What would be is tried out here, so that the club itself stays as it is. */
    private final Club trial;
    private boolean keeping;
    private final Tape tape;
    private final TextReader reader;
    private final Sheet[] sheets;
    private final int[] findings;

    public LeftGloves() {
        club = new Club();
        kept = new Club();
        trial = new Club();
        keeping = false;
        tape = new Tape();
        reader = new TextReader();
        sheets = new Sheet[SHEETS];
        for (int s = 0; s < SHEETS; s++) {
            sheets[s] = new Sheet();
        }
        findings = new int[FINDINGS];
    }

    // ---- list, gloves

    public int say(int i, int saying) {
        if (!isWithin(i, PLACES - 1) || !isSaying(saying)) {
            return finding(BEYOND);
        }
        int was = club.list[i];
        club.list[i] = saying;
        return was;
    }

    public int said(int i) {
        if (!isWithin(i, PLACES - 1)) {
            return finding(BEYOND);
        }
        return club.list[i];
    }

    public int room(int room, int what) {
        if (!isWithin(room, ROOMS - 1)) {
            return finding(BEYOND);
        }
        int lying = club.lyingIn(room, NOBODY);
        switch (what) {
            case 0:
                return lying;
            case 1:
                return club.hushOf(lying);
            case 2:
                return club.knownBy(lying);
            case 3:
                return club.saidIn(room);
            default:
                return finding(BEYOND);
        }
    }

    public int glove(int kind, int room) {
        if (!isWithin(kind, KINDS - 1) || !isWithin(room, ROOMS - 1)) {
            return finding(BEYOND);
        }
        if (club.size >= MOST_GLOVES) {
            return finding(FULL);
        }
        return club.putDown(kind, room);
    }

    public int of(int glove, int what) {
        if (!club.has(glove) || !isWithin(what, Glove.KEEPS)) {
            return finding(BEYOND);
        }
        return what == Glove.NEEDS ? club.needOf(glove) : club.gloves[glove].trait(what);
    }

    public int change(int glove, int what, int v) {
        if (!club.has(glove) || !isWithin(v, Glove.mostOf(what))) {
            return finding(BEYOND);
        }
        Glove one = club.gloves[glove];
        int was = one.trait(what);
        one.setTrait(what, v);
        return was;
    }

    public int draw(int glove) {
        if (!club.has(glove)) {
            return finding(BEYOND);
        }
        Glove one = club.gloves[glove];
        if (one.stays() == 0) {
            return finding(STATE);
        }
        one.beDrawnOn();
        return one.hand;
    }

    public int who(int topic, int hand) {
        if (!isWithin(topic, TOPICS - 1) || !isWithin(hand, 1)) {
            return finding(BEYOND);
        }
        return club.whoKnows(topic, hand == 1);
    }

    // ---- days

    public int go(int n) {
        if (n < 1 || n > 60) {
            return finding(BEYOND);
        }
        if (club.day + n > LAST_DAY) {
            return finding(STATE);
        }
        club.passDays(n, NOBODY);
        return club.knownByGloves();
    }

    public int now(int what) {
        switch (what) {
            case 0:
                return club.day;
            case 1:
                return club.knownByGloves();
            case 2:
                return club.knownByHands();
            case 3:
                return ALL_TOPICS & ~club.knownToAnyone();
            case 4:
                return club.drawnInAll();
            case 5:
                return club.wisest();
            case 6:
                return club.hearersOf(club.list[club.placeOfToday()], NOBODY);
            default:
                return finding(BEYOND);
        }
    }

    // ---- what will be

    public int ahead(int glove, int what, int n) {
        if (!club.has(glove) || !canBeAskedAhead(what) || !isWithin(n, 100)) {
            return finding(BEYOND);
        }
        trial.become(club);
        trial.passDays(n, NOBODY);
        return trial.gloves[glove].trait(what);
    }

    public int hears(int glove, int topic) {
        if (!club.has(glove) || !isWithin(topic, TOPICS - 1)) {
            return finding(BEYOND);
        }
        return daysUntil(GLOVE_KNOWS_TOPIC, glove, topic);
    }

    public int wise(int glove, int v) {
        if (!club.has(glove) || !isWithin(v, TOPICS)) {
            return finding(BEYOND);
        }
        return daysUntil(HAND_KNOWS_SO_MANY, glove, v);
    }

    public int out(int topics) {
        if (!isWithin(topics, ALL_TOPICS)) {
            return finding(BEYOND);
        }
        return daysUntil(ALL_IS_KNOWN, 0, topics);
    }

    private static boolean canBeAskedAhead(int what) {
        return what == Glove.ROOM || isWithin(what, Glove.DRAWN) && what >= Glove.KNOWS;
    }

    /** The fewest days behind which the answer to a question is yes, or that there are none. */
    private int daysUntil(int question, int glove, int v) {
        trial.become(club);
        for (int days = 0; days <= FARTHEST; days++) {
            if (isSoInTrial(question, glove, v)) {
                return days;
            }
            trial.passDay(NOBODY);
        }
        return finding(NONE);
    }

    private boolean isSoInTrial(int question, int glove, int v) {
        switch (question) {
            case GLOVE_KNOWS_TOPIC:
                return isIn(v, trial.gloves[glove].knows);
            case HAND_KNOWS_SO_MANY:
                return trial.topicsInHand(glove) >= v;
            default:
                return (v & ~trial.knownToAnyone()) == 0;
        }
    }

    // ---- where to leave one

    public int leave(int glove, int n) {
        if (!club.has(glove) || !isWithin(n, 60)) {
            return finding(BEYOND);
        }
        return bestFor(glove, Glove.ROOM, ROOMS - 1, n);
    }

    public int openFor(int glove, int v, int n) {
        if (!club.has(glove) || !isWithin(v, TOPICS) || !isWithin(n, 60)) {
            return finding(BEYOND);
        }
        for (int open = 0; open <= WIDEST; open++) {
            tryOut(glove, Glove.OPEN, open);
            trial.passDays(n, NOBODY);
            if (trial.topicsInHand(glove) >= v) {
                return open;
            }
        }
        return finding(NONE);
    }

    public int kindFor(int glove, int n) {
        if (!club.has(glove) || !isWithin(n, 60)) {
            return finding(BEYOND);
        }
        return bestFor(glove, Glove.KIND, KINDS - 1, n);
    }

    public int lower(int i) {
        if (!isWithin(i, PLACES - 1)) {
            return finding(BEYOND);
        }
        int silent = club.list[i] - loudOf(club.list[i]);
        for (int loud = LOUDEST; loud >= 0; loud--) {
            if (club.hearersOf(silent + loud, NOBODY) == 0) {
                return loud;
            }
        }
        return finding(NONE);
    }

    public int cover(int topics) {
        if (!isWithin(topics, ALL_TOPICS)) {
            return finding(BEYOND);
        }
        int best = NOTHING;
        for (int set = 0; set < 1 << club.size; set++) {
            if (isFewer(set, best) && (topics & ~(club.knownBy(set) | club.knownByHandsOf(set))) == 0) {
                best = set;
            }
        }
        return best == NOTHING ? finding(NONE) : best;
    }

    public int away(int glove, int topic, int n) {
        if (!club.has(glove) || !isWithin(topic, TOPICS - 1) || !isWithin(n, 20)) {
            return finding(BEYOND);
        }
        int best = NOTHING;
        for (int set = 0; set < 1 << club.size; set++) {
            if (isFewer(set, best) && !isIn(glove, set) && comesToKnowWithout(set, glove, topic, n)) {
                best = set;
            }
        }
        return best == NOTHING ? finding(NONE) : best;
    }

    /** Whether a set has fewer gloves than the best so far, if there is one. */
    private static boolean isFewer(int set, int best) {
        return best == NOTHING || Integer.bitCount(set) < Integer.bitCount(best);
    }

    /** The least v, as a trait of a glove, with which its hand knows most behind n days. */
    private int bestFor(int glove, int trait, int most, int n) {
        int best = 0;
        int bestTopics = -1;
        for (int v = 0; v <= most; v++) {
            tryOut(glove, trait, v);
            trial.passDays(n, NOBODY);
            int topics = trial.topicsInHand(glove);
            if (topics > bestTopics) {
                best = v;
                bestTopics = topics;
            }
        }
        return best;
    }

    /** The trial becomes the club as it would be if a trait of a glove were v now. */
    private void tryOut(int glove, int trait, int v) {
        trial.become(club);
        trial.gloves[glove].setTrait(trait, v);
    }

    private boolean comesToKnowWithout(int gone, int glove, int topic, int n) {
        trial.become(club);
        trial.passDays(n, gone);
        Glove one = trial.gloves[glove];
        return isIn(topic, one.knows | one.hand);
    }

    // ---- by told hands

    public int fits(int s, int glove) {
        return choicesAsTold(s, glove, Glove.ROOM, ROOMS - 1);
    }

    public int kinds(int s, int glove) {
        return choicesAsTold(s, glove, Glove.KIND, KINDS - 1);
    }

    /** Which values a trait of a glove could have now so that all goes as a sheet tells. */
    private int choicesAsTold(int s, int glove, int trait, int most) {
        int lack = lackOf(s);
        if (lack != 0) {
            return finding(lack);
        }
        if (!club.has(glove)) {
            return finding(BEYOND);
        }
        int choices = 0;
        for (int v = 0; v <= most; v++) {
            tryOut(glove, trait, v);
            if (trialGoesAsTold(sheets[s], glove)) {
                choices |= 1 << v;
            }
        }
        return choices;
    }

    private boolean trialGoesAsTold(Sheet told, int glove) {
        for (int i = 0; i < told.size; i++) {
            int number = told.numbers[i];
            if (number != ANY && number != trial.gloves[glove].knows) {
                return false;
            }
            trial.passDay(NOBODY);
        }
        return true;
    }

    // ---- sayings by draws

    public int talk(int n) {
        if (n < 1 || n > 20) {
            return finding(BEYOND);
        }
        if (club.day + n > LAST_DAY) {
            return finding(STATE);
        }
        for (int i = 0; i < n; i++) {
            club.drawSaying();
            club.passDay(NOBODY);
        }
        return club.knownByGloves();
    }

    public long odds(int glove, int n, int what) {
        if (!club.has(glove) || !isWithin(n, 15) || !isWithin(what, 1)) {
            return finding(BEYOND);
        }
        int above = club.topicsInHand(glove);
        int below = TOPICS;
        // Sixteen has no divisor but 2, and powers of a fraction in lowest terms stay so.
        while (below > 1 && above % 2 == 0) {
            above /= 2;
            below /= 2;
        }
        return power(what == 0 ? above : below, n);
    }

    public int seed(int v) {
        int was = club.z;
        club.z = v;
        return was;
    }

    private static long power(int base, int n) {
        long product = 1;
        for (int i = 0; i < n; i++) {
            product *= base;
        }
        return product;
    }

    // ---- texts

    public int feed(int bytes, int n) {
        if (n < 1 || n > 4) {
            return finding(BEYOND);
        }
        if (tape.length + n > MOST_BYTES) {
            return finding(FULL);
        }
        for (int i = n - 1; i >= 0; i--) {
            tape.append((byte) (bytes >>> 8 * i));
        }
        return tape.length;
    }

    public int wipe() {
        int had = tape.length;
        tape.length = 0;
        return had;
    }

    public int text() {
        trial.become(club);
        int answer = reader.read(tape, trial);
        if (answer >= 0) {
            club.become(trial);
        }
        tape.length = 0;
        return answer;
    }

    // ---- spots, sheets

    public int hold(int spot, int glove) {
        if (!isWithin(spot, SPOTS - 1) || glove != NOTHING && !club.has(glove)) {
            return finding(BEYOND);
        }
        club.spots[spot] = glove;
        return 1;
    }

    public int as(int spot, int kind) {
        if (!isWithin(spot, SPOTS - 1) || !isWithin(kind, KINDS - 1)) {
            return finding(BEYOND);
        }
        int glove = club.spots[spot];
        if (!club.has(glove)) {
            return finding(MISSING);
        }
        return club.gloves[glove].isA(kind) ? glove : finding(KIND);
    }

    public int sheet(int s, int bits, int n) {
        if (!isSheet(s) || bits != 0 && bits != 8 && bits != 16 && bits != 32) {
            return finding(BEYOND);
        }
        if (n < 0) {
            return finding(SIZE);
        }
        if (n > MOST_NUMBERS) {
            return finding(BEYOND);
        }
        sheets[s].layOut(bits, bits == 0 ? 0 : n);
        return sheets[s].size;
    }

    public int write(int s, int i, int v) {
        int lack = lackOf(s);
        if (lack != 0) {
            return finding(lack);
        }
        if (!isWithin(i, sheets[s].size - 1)) {
            return finding(BEYOND);
        }
        sheets[s].setNumber(i, v);
        return 1;
    }

    public int copy(int s, int from, int t, int to, int n) {
        if (!isSheet(s) || !isSheet(t)) {
            return finding(BEYOND);
        }
        Sheet source = sheets[s];
        Sheet target = sheets[t];
        if (source.isMissing() || target.isMissing()) {
            return finding(MISSING);
        }
        if (source.bits != target.bits) {
            return finding(KIND);
        }
        if (!source.hasRow(from, n) || !target.hasRow(to, n)) {
            return finding(BEYOND);
        }
        System.arraycopy(source.numbers, from, target.numbers, to, n);
        return n;
    }

    public int load(int s) {
        int lack = lackOf(s);
        if (lack != 0) {
            return finding(lack);
        }
        int came = 0;
        while (came < PLACES && came < sheets[s].size && isSaying(sheets[s].numbers[came])) {
            club.list[came] = sheets[s].numbers[came];
            came++;
        }
        return came;
    }

    public int judge(int s) {
        int lack = lackOf(s);
        if (lack != 0) {
            return finding(lack);
        }
        for (int i = 0; i < sheets[s].size; i++) {
            if (!club.has(i) || club.gloves[i].hand != sheets[s].numbers[i]) {
                return 1 + i;
            }
        }
        return 0;
    }

    // ---- images

    public int image() {
        kept.become(club);
        keeping = true;
        return 1;
    }

    public int undo() {
        if (!keeping) {
            return finding(NONE);
        }
        club.become(kept);
        return club.day;
    }

    public int tear() {
        int was = keeping ? 1 : 0;
        keeping = false;
        return was;
    }

    public int count(int what) {
        switch (what) {
            case 0:
                return club.day;
            case 1:
                return club.size;
            case 2:
                return Integer.bitCount(club.knownByGloves());
            case 3:
                return Integer.bitCount(club.knownByHands());
            case 4:
                return club.drawnInAll();
            case 5:
                return tape.length;
            case 6:
                return club.z;
            case 7:
                return club.spotsThatHold();
            default:
                return finding(BEYOND);
        }
    }

    public int status(int which) {
        if (which == -1) {
            int all = 0;
            for (int i = 0; i < FINDINGS; i++) {
                all += findings[i];
            }
            return all;
        }
        return isWithin(which, FINDINGS - 1) ? findings[which] : finding(BEYOND);
    }

    /** Counts a finding for status(), and tells it. */
    private int finding(int told) {
        int which = BEYOND - told;
        if (isWithin(which, FINDINGS - 1)) {
            findings[which]++;
        }
        return told;
    }

    /** What there is to find of a sheet that must be there; 0 if it is. */
    private int lackOf(int s) {
        if (!isSheet(s)) {
            return BEYOND;
        }
        return sheets[s].isMissing() ? MISSING : 0;
    }

    private static boolean isSheet(int s) {
        return isWithin(s, SHEETS - 1);
    }

    private static boolean isWithin(int v, int most) {
        return v >= 0 && v <= most;
    }

    private static boolean isIn(int member, int set) {
        return (set >> member & 1) == 1;
    }

    private static boolean isSaying(int number) {
        return isWithin(roomOf(number), ROOMS - 1) && isWithin(number % 1000, 10 * TOPICS - 1);
    }

    private static int roomOf(int saying) {
        return saying / 1000;
    }

    private static int topicOf(int saying) {
        return saying % 1000 / 10;
    }

    private static int loudOf(int saying) {
        return saying % 10;
    }

    private static int sayingOf(int room, int topic, int loud) {
        return 1000 * room + 10 * topic + loud;
    }

    /** One glove, with its hand. */
    private static final class Glove {
        /** What of() and change() ask for. */
        static final int KIND = 0;
        static final int ROOM = 1;
        static final int OPEN = 2;
        static final int KNOWS = 3;
        static final int LIES = 4;
        static final int HAND = 5;
        static final int DRAWN = 6;
        static final int NEEDS = 7;
        static final int HUSHES = 8;
        static final int STAYS = 9;
        static final int KEEPS = 10;

        static final int KIDSKIN = 1;
        static final int MITTEN = 2;
        static final int LADY = 3;
        static final int BURNT = 4;
        static final int STIFF = 5;
        static final int DOUBLE = 6;

        /** By kind: the kind that it is under. */
        private static final int[] ABOVE = {-1, 0, 0, 2, 3, 0, 1};
        private static final int[] STAYS_BY_KIND = {7, 5, 14, 14, 0, 0, 5};
        private static final int[] KEEPS_BY_KIND = {6, 8, 3, 3, 3, 16, 10};
        /** By trait: the greatest number that it can be. */
        private static final int[] MOST = {6, 5, 9, 65535, 9999, 65535, 9999};

        int kind;
        int room;
        int open;
        int knows;
        int lies;
        int hand;
        int drawn;

        /** The greatest number that a trait can be; below 0 for what can't be changed. */
        static int mostOf(int what) {
            return isWithin(what, DRAWN) ? MOST[what] : -1;
        }

        void beNew(int newKind, int newRoom) {
            kind = newKind;
            room = newRoom;
            open = 5;
            knows = 0;
            lies = 0;
            hand = 0;
            drawn = 0;
        }

        void become(Glove other) {
            kind = other.kind;
            room = other.room;
            open = other.open;
            knows = other.knows;
            lies = other.lies;
            hand = other.hand;
            drawn = other.drawn;
        }

        /** All that of() tells but what it needs: that hangs on the others in its room, too. */
        int trait(int what) {
            switch (what) {
                case KIND:
                    return kind;
                case ROOM:
                    return room;
                case OPEN:
                    return open;
                case KNOWS:
                    return knows;
                case LIES:
                    return lies;
                case HAND:
                    return hand;
                case DRAWN:
                    return drawn;
                case HUSHES:
                    return hushes();
                case STAYS:
                    return stays();
                default:
                    return keeps();
            }
        }

        void setTrait(int what, int v) {
            switch (what) {
                case KIND:
                    kind = v;
                    break;
                case ROOM:
                    room = v;
                    break;
                case OPEN:
                    open = v;
                    break;
                case KNOWS:
                    knows = v;
                    break;
                case LIES:
                    lies = v;
                    break;
                case HAND:
                    hand = v;
                    break;
                default:
                    drawn = v;
                    break;
            }
        }

        int needs(boolean inCompany) {
            int asGlove = 10 - open;
            int asKidskin = Math.max(0, asGlove - 2);
            int asMitten = asGlove + 3;
            switch (kind) {
                case KIDSKIN:
                    return asKidskin;
                case DOUBLE:
                    return inCompany ? 1 : asKidskin;
                case MITTEN:
                    return asMitten;
                case LADY:
                    return Math.max(0, asMitten - 4);
                case BURNT:
                    return 99;
                case STIFF:
                    return 0;
                default:
                    return asGlove;
            }
        }

        int hushes() {
            switch (kind) {
                case KIDSKIN:
                case LADY:
                    return 1;
                case DOUBLE:
                    return 2;
                case STIFF:
                    return lies >= 100 ? 1 : 0;
                default:
                    return 0;
            }
        }

        int stays() {
            return isWithin(kind, KINDS - 1) ? STAYS_BY_KIND[kind] : 0;
        }

        int keeps() {
            return isWithin(kind, KINDS - 1) ? KEEPS_BY_KIND[kind] : 0;
        }

        /** Whether it is of a kind, or of one under it. */
        boolean isA(int wanted) {
            int own = kind;
            for (int step = 0; step < KINDS && isWithin(own, KINDS - 1); step++) {
                if (own == wanted) {
                    return true;
                }
                own = ABOVE[own];
            }
            return false;
        }

        void takeIn(int topic) {
            int heard = 1 << topic;
            knows |= heard;
            if (Integer.bitCount(knows) > keeps()) {
                int others = knows & ~heard;
                // The lowest bit of the others goes.
                knows = heard | others & others - 1;
            }
        }

        void lieOneDay() {
            lies = Math.min(MOST[LIES], lies + 1);
            int stays = stays();
            if (stays > 0 && lies >= stays) {
                beDrawnOn();
            }
        }

        void beDrawnOn() {
            hand |= knows;
            knows = 0;
            lies = 0;
            drawn = Math.min(MOST[DRAWN], drawn + 1);
            room = (room + 1) % ROOMS;
        }
    }

    /** All that an image keeps: the list, the gloves, the day, z and the spots. */
    private static final class Club {
        final Glove[] gloves;
        final int[] list;
        final int[] spots;
        int size;
        int day;
        int z;

        Club() {
            gloves = new Glove[MOST_GLOVES];
            for (int g = 0; g < MOST_GLOVES; g++) {
                gloves[g] = new Glove();
            }
            list = new int[PLACES];
            for (int i = 0; i < PLACES; i++) {
                list[i] = sayingOf(i, i, 5);
            }
            spots = new int[SPOTS];
            for (int spot = 0; spot < SPOTS; spot++) {
                spots[spot] = NOTHING;
            }
            size = 0;
            day = 0;
            z = 1;
        }

        void become(Club other) {
            for (int g = 0; g < other.size; g++) {
                gloves[g].become(other.gloves[g]);
            }
            System.arraycopy(other.list, 0, list, 0, PLACES);
            System.arraycopy(other.spots, 0, spots, 0, SPOTS);
            size = other.size;
            day = other.day;
            z = other.z;
        }

        boolean has(int glove) {
            return isWithin(glove, size - 1);
        }

        /** Puts a new glove down, where there is room for one: its number. */
        int putDown(int kind, int room) {
            if (size >= MOST_GLOVES) {
                return NOTHING;
            }
            gloves[size].beNew(kind, room);
            size++;
            return size - 1;
        }

        int lyingIn(int room, int away) {
            int lying = 0;
            for (int g = 0; g < size; g++) {
                if (gloves[g].room == room) {
                    lying |= 1 << g;
                }
            }
            return lying & ~away;
        }

        int hushOf(int set) {
            int hush = 0;
            for (int g = 0; g < size; g++) {
                if (isIn(g, set)) {
                    hush += gloves[g].hushes();
                }
            }
            return hush;
        }

        int knownBy(int set) {
            int known = 0;
            for (int g = 0; g < size; g++) {
                if (isIn(g, set)) {
                    known |= gloves[g].knows;
                }
            }
            return known;
        }

        int knownByHandsOf(int set) {
            int known = 0;
            for (int g = 0; g < size; g++) {
                if (isIn(g, set)) {
                    known |= gloves[g].hand;
                }
            }
            return known;
        }

        int knownByGloves() {
            return knownBy(everyone());
        }

        int knownByHands() {
            return knownByHandsOf(everyone());
        }

        int knownToAnyone() {
            return knownByGloves() | knownByHands();
        }

        int everyone() {
            return (1 << size) - 1;
        }

        int whoKnows(int topic, boolean byHand) {
            int set = 0;
            for (int g = 0; g < size; g++) {
                if (isIn(topic, byHand ? gloves[g].hand : gloves[g].knows)) {
                    set |= 1 << g;
                }
            }
            return set;
        }

        int saidIn(int room) {
            int topics = 0;
            for (int i = 0; i < PLACES; i++) {
                if (roomOf(list[i]) == room) {
                    topics |= 1 << topicOf(list[i]);
                }
            }
            return topics;
        }

        int drawnInAll() {
            int drawn = 0;
            for (int g = 0; g < size; g++) {
                drawn += gloves[g].drawn;
            }
            return drawn;
        }

        int topicsInHand(int glove) {
            return Integer.bitCount(gloves[glove].hand);
        }

        /** The first glove whose hand knows most, or that there are none. */
        int wisest() {
            int best = NOTHING;
            int most = -1;
            for (int g = 0; g < size; g++) {
                int topics = topicsInHand(g);
                if (topics > most) {
                    best = g;
                    most = topics;
                }
            }
            return best;
        }

        int spotsThatHold() {
            int holding = 0;
            for (int spot = 0; spot < SPOTS; spot++) {
                if (spots[spot] != NOTHING) {
                    holding++;
                }
            }
            return holding;
        }

        int needOf(int glove) {
            int others = lyingIn(gloves[glove].room, NOBODY) & ~(1 << glove);
            return gloves[glove].needs(others != 0);
        }

        /** Gloves that hear a saying, if some gloves are away. */
        int hearersOf(int saying, int away) {
            int lying = lyingIn(roomOf(saying), away);
            int left = Math.max(0, loudOf(saying) - hushOf(lying));
            int hearers = 0;
            for (int g = 0; g < size; g++) {
                int own = 1 << g;
                // A need is never below 0, so what is hushed to 0 is heard by needs of 0 alone.
                if (isIn(g, lying) && gloves[g].needs((lying & ~own) != 0) <= left) {
                    hearers |= own;
                }
            }
            return hearers;
        }

        int placeOfToday() {
            return Math.floorMod(day, PLACES);
        }

        void passDays(int n, int away) {
            for (int i = 0; i < n; i++) {
                passDay(away);
            }
        }

        void passDay(int away) {
            int saying = list[placeOfToday()];
            // Who hears is settled for all before the first one is drawn on and leaves its room.
            int hearers = hearersOf(saying, away);
            for (int g = 0; g < size; g++) {
                if (isIn(g, hearers)) {
                    gloves[g].takeIn(topicOf(saying));
                }
                if (!isIn(g, away)) {
                    gloves[g].lieOneDay();
                }
            }
            day = Math.min(LAST_DAY, day + 1);
        }

        /** The list tells for this day a saying by three draws. */
        void drawSaying() {
            int room = nextDraw() % ROOMS;
            int topic = nextDraw() % TOPICS;
            int loud = nextDraw() % (LOUDEST + 1);
            list[placeOfToday()] = sayingOf(room, topic, loud);
        }

        int nextDraw() {
            z = z * 1103515245 + 12345;
            return z >>> 8;
        }
    }

    /** A row of numbers of so many bits, or missing. */
    private static final class Sheet {
        final int[] numbers;
        int bits;
        int size;

        Sheet() {
            numbers = new int[MOST_NUMBERS];
            bits = 0;
            size = 0;
        }

        boolean isMissing() {
            return bits == 0;
        }

        /** Bits of 0 make it missing. */
        void layOut(int newBits, int newSize) {
            bits = newBits;
            size = newSize;
            for (int i = 0; i < size; i++) {
                numbers[i] = 0;
            }
        }

        void setNumber(int i, int v) {
            switch (bits) {
                case 8:
                    numbers[i] = (byte) v;
                    break;
                case 16:
                    numbers[i] = (short) v;
                    break;
                default:
                    numbers[i] = v;
                    break;
            }
        }

        boolean hasRow(int from, int n) {
            return isWithin(from, size) && isWithin(n, size - from);
        }
    }

    /** The bytes that a text is read from. */
    private static final class Tape {
        final byte[] bytes;
        int length;

        Tape() {
            bytes = new byte[MOST_BYTES];
            length = 0;
        }

        void append(byte b) {
            if (length < MOST_BYTES) {
                bytes[length] = b;
                length++;
            }
        }

        /** The byte at a place, or 0 (which stands in no token) behind the last. */
        int byteAt(int place) {
            return isWithin(place, length - 1) ? bytes[place] : 0;
        }

        boolean spells(String word, int from, int to) {
            if (word.length() != to - from) {
                return false;
            }
            for (int i = 0; i < word.length(); i++) {
                if (byteAt(from + i) != word.charAt(i)) {
                    return false;
                }
            }
            return true;
        }
    }

    /** The tokens of a tape, in order, and an end behind them. */
    private static final class Tokens {
        /** The words; a kind's word bears the kind's number. */
        static final int IN = 7;
        static final int OPEN = 8;
        static final int KNOWS = 9;
        static final int LIES = 10;
        static final int SAID = 11;
        static final int HAND = 12;
        private static final int WORDS = 13;

        /** The sorts of tokens besides; a word has this one till it is known which it is. */
        static final int WORD = 13;
        static final int NUMBER = 14;
        static final int SIGN = 15;
        static final int OTHER = 16;
        static final int END = 17;
        private static final int BLANK = 18;

        private static final int GREATEST_NUMBER = 99999;
        private static final int MOST_TOKENS = MOST_BYTES + 1;

        private final int[] sorts;
        private final int[] starts;
        private final int[] ends;
        private final int[] numbers;
        private int size;

        Tokens() {
            sorts = new int[MOST_TOKENS];
            starts = new int[MOST_TOKENS];
            ends = new int[MOST_TOKENS];
            numbers = new int[MOST_TOKENS];
            size = 0;
        }

        int sortAt(int at) {
            return at >= 0 && at < size ? sorts[at] : END;
        }

        int startAt(int at) {
            return at >= 0 && at < size ? starts[at] : 0;
        }

        int numberAt(int at) {
            return at >= 0 && at < size ? numbers[at] : 0;
        }

        void readFrom(Tape tape) {
            size = 0;
            int before = BLANK;
            for (int place = 0; place < tape.length; place++) {
                int sort = sortOf(tape.byteAt(place));
                boolean goesOn = sort == before && (sort == WORD || sort == NUMBER);
                if (!goesOn && sort != BLANK) {
                    begin(sort, place);
                }
                if (sort != BLANK) {
                    takeUp(tape.byteAt(place), place);
                }
                before = sort;
            }
            begin(END, tape.length);
            nameWords(tape);
        }

        private static int sortOf(int b) {
            if (b >= 'a' && b <= 'z') {
                return WORD;
            }
            if (b >= '0' && b <= '9') {
                return NUMBER;
            }
            if (b == ';') {
                return SIGN;
            }
            return b == ' ' ? BLANK : OTHER;
        }

        private void begin(int sort, int place) {
            if (size < MOST_TOKENS) {
                sorts[size] = sort;
                starts[size] = place;
                ends[size] = place;
                numbers[size] = 0;
                size++;
            }
        }

        /** The latest token gets a byte more. */
        private void takeUp(int b, int place) {
            int latest = size - 1;
            if (!isWithin(latest, MOST_TOKENS - 1)) {
                return;
            }
            ends[latest] = place + 1;
            if (sorts[latest] == NUMBER) {
                // One too great for any use stays so: a tape's worth of digits would wrap around.
                numbers[latest] = Math.min(GREATEST_NUMBER + 1, 10 * numbers[latest] + b - '0');
            }
        }

        private void nameWords(Tape tape) {
            for (int at = 0; at < size; at++) {
                for (int word = 0; word < WORDS && sorts[at] == WORD; word++) {
                    if (tape.spells(spellingOf(word), starts[at], ends[at])) {
                        sorts[at] = word;
                    }
                }
            }
        }

        private static String spellingOf(int word) {
            switch (word) {
                case Glove.KIDSKIN:
                    return "kidskin";
                case Glove.MITTEN:
                    return "mitten";
                case Glove.LADY:
                    return "lady";
                case Glove.BURNT:
                    return "burnt";
                case Glove.STIFF:
                    return "stiff";
                case Glove.DOUBLE:
                    return "double";
                case IN:
                    return "in";
                case OPEN:
                    return "open";
                case KNOWS:
                    return "knows";
                case LIES:
                    return "lies";
                case SAID:
                    return "said";
                case HAND:
                    return "hand";
                default:
                    return "glove";
            }
        }
    }

    /** Reads a text, token by token, into a club. */
    private static final class TextReader {
        private final Tokens tokens;
        /** The first token that isn't taken yet. */
        private int at;
        /** From the fault on nothing more is taken, so that the first token left is the fault. */
        private boolean faulty;

        TextReader() {
            tokens = new Tokens();
            at = 0;
            faulty = false;
        }

        /** What a tape tells becomes so in a club: how many items, or -1 less the fault. */
        int read(Tape tape, Club club) {
            tokens.readFrom(tape);
            at = 0;
            faulty = false;
            for (int items = 1; items <= MOST_BYTES && !faulty; items++) {
                takeItem(club);
                if (!faulty && tokens.sortAt(at) == Tokens.END) {
                    return items;
                }
                if (!takes(Tokens.SIGN)) {
                    faulty = true;
                }
            }
            return -1 - tokens.startAt(at);
        }

        private void takeItem(Club club) {
            if (takes(Tokens.SAID)) {
                takeSaying(club);
            } else if (takes(Tokens.HAND)) {
                takeHand(club);
            } else {
                takeGlove(club);
            }
        }

        private void takeSaying(Club club) {
            int place = takeNumber(PLACES - 1);
            int room = takeNumber(ROOMS - 1);
            int topic = takeNumber(TOPICS - 1);
            int loud = takeNumber(LOUDEST);
            if (!faulty) {
                club.list[place] = sayingOf(room, topic, loud);
            }
        }

        private void takeHand(Club club) {
            int glove = takeNumber(club.size - 1);
            int topics = takeNumber(ALL_TOPICS);
            if (!faulty) {
                club.gloves[glove].hand = topics;
            }
        }

        private void takeGlove(Club club) {
            int kind = tokens.sortAt(at);
            if (!isWithin(kind, KINDS - 1) || club.size >= MOST_GLOVES) {
                faulty = true;
                return;
            }
            at++;
            Glove one = club.gloves[club.putDown(kind, 0)];
            takeTrait(Tokens.IN, one, Glove.ROOM);
            takeTrait(Tokens.OPEN, one, Glove.OPEN);
            takeTrait(Tokens.KNOWS, one, Glove.KNOWS);
            takeTrait(Tokens.LIES, one, Glove.LIES);
        }

        private void takeTrait(int word, Glove one, int trait) {
            if (takes(word)) {
                one.setTrait(trait, takeNumber(Glove.mostOf(trait)));
            }
        }

        /** Takes a number that is so great at most; 0 with a fault. */
        private int takeNumber(int most) {
            int number = tokens.numberAt(at);
            if (faulty || tokens.sortAt(at) != Tokens.NUMBER || number > most) {
                faulty = true;
                return 0;
            }
            at++;
            return number;
        }

        /** Takes a token of a sort if it stands there; it is no fault here if it doesn't. */
        private boolean takes(int sort) {
            if (faulty || tokens.sortAt(at) != sort) {
                return false;
            }
            at++;
            return true;
        }
    }
}
