import java.util.Arrays;

/** Threes who share one eye, one ear and one mouth; ../shared/DOC.md says what each call must do. */
public final class OneEye {
    public static final int NONE = -1;

    private static final int MOST_THREES = 4;
    private static final int MEMBERS = 3;
    private static final int THINGS = 3;
    private static final int MOST_PEOPLE = 12;
    private static final int FACTS = 10;
    private static final int SPOTS = 9;
    private static final int MOST_NOISES = 20;
    private static final int MOST_LINES = 99;
    private static final int MOST_STEPS = 30;
    private static final int MOST_PLACES = 12;
    private static final int MOST_WATCHES = 9;
    private static final int MOST_BYTES = 400;
    private static final int LAST_MINUTE = 99999;
    private static final int MOST_MINUTES_A_CALL = 1000;
    private static final int DAY = 240;

    private static final int EYE = 0;
    private static final int EAR = 1;
    private static final int MOUTH = 2;

    // Where a THING is, as where() answers: below MEMBERS a MEMBER, else one of these.
    private static final int HANDED_OVER = 3;
    private static final int ON_SPOT = 10;

    private static final int NOTHING = 0;
    private static final int IS_SO = 1;
    private static final int IS_NOT = 2;

    // A KEYWORD's token is its place among WORDS, so that those of the STEPS are also the STEPS' kinds.
    private static final int GIVE = 0;
    private static final int SEE = 1;
    private static final int SAY = 2;
    private static final int LIE = 3;
    private static final int REST = 4;
    private static final int FEEL = 5;
    private static final int TO = 6;
    private static final int EYE_WORD = 7;
    private static final int MOUTH_WORD = 9;
    private static final int NUMBER = 10;
    private static final int SEMICOLON = 11;
    private static final int END = 12;
    private static final int NO_TOKEN = 13;

    private static final int WORD_COUNT = 10;
    private static final int LONGEST_WORD = 5;
    private static final int MOST_DIGITS = 4;
    private static final String WORDS = "give see  say  lie  rest feel to   eye  ear  mouth";

    // The world as it goes on, and THE IMAGE of it (null till one is taken).
    private final World now;
    private World kept;
    private final Reader reader;
    private final Talk talk;
    private final Way way;
    private final Feelers feelers;
    private final Deal deal;

    public OneEye() {
        now = new World();
        kept = null;
        reader = new Reader();
        talk = new Talk();
        way = new Way();
        feelers = new Feelers();
        deal = new Deal();
    }

    public int state(int v) {
        int before = now.state;
        now.state = v;
        return before;
    }

    public int three(int hand, int drop) {
        if (!within(hand, 1, 9) || !within(drop, 0, 1000)) {
            return NONE;
        }
        return now.addThree(hand, drop);
    }

    public boolean fact(int f, boolean is) {
        if (!within(f, 0, FACTS - 1)) {
            return false;
        }
        now.facts[f] = is ? 1 : 0;
        return true;
    }

    public boolean trust(int p, int three, boolean does) {
        Person person = now.personAt(p);
        if (person == null || now.threeAt(three) == null) {
            return false;
        }
        person.trusted = withBit(person.trusted, three, does);
        return true;
    }

    public int feed(int a, int b, int c, int d, int e) {
        if (reader.length + 20 > MOST_BYTES) {
            return NONE;
        }
        reader.append(a);
        reader.append(b);
        reader.append(c);
        reader.append(d);
        reader.append(e);
        return reader.length;
    }

    public boolean end(int n) {
        if (!within(n, 0, reader.length)) {
            return false;
        }
        reader.length = n;
        return true;
    }

    public int text(int three) {
        Three told = now.threeAt(three);
        reader.takeTape();
        if (told == null || !reader.readPlan(now.count)) {
            return NONE;
        }
        told.follow(reader.draft);
        return told.plan.size;
    }

    public int fault(int what) {
        return what == 0 ? reader.fault : what == 1 ? reader.place : NONE;
    }

    public int minutes(int n) {
        if (!within(n, 1, MOST_MINUTES_A_CALL) || now.minute + n > LAST_MINUTE) {
            return NONE;
        }
        for (int i = 0; i < n; i++) {
            now.passMinute();
        }
        return now.minute;
    }

    public int where(int three, int thing) {
        Three asked = now.threeAt(three);
        return asked == null ? NONE : asked.placeOf(thing);
    }

    public int knows(int p, int f) {
        Person person = now.personAt(p);
        return person == null ? NONE : person.knowledgeOf(f);
    }

    public int origin(int p, int f, int what) {
        Person person = now.personAt(p);
        return person == null ? NONE : person.originOf(f, what);
    }

    public int noise(int minute) {
        return now.addNoise(minute);
    }

    public int heard(int p) {
        Person person = now.personAt(p);
        return person == null ? NONE : person.noisesHeard;
    }

    public int held(int p, int thing) {
        Person person = now.personAt(p);
        return person == null || !within(thing, 0, THINGS - 1) ? NONE : person.minutesHeld[thing];
    }

    public int of(int three, int what) {
        Three asked = now.threeAt(three);
        return asked == null ? NONE : asked.tell(what);
    }

    public int book(int i, int what) {
        return now.book.tell(i, what);
    }

    public int errand(int t, int f, int u, int what) {
        if (t == u || !within(f, 0, FACTS - 1) || !within(what, 0, 1)) {
            return NONE;
        }
        Three sender = now.threeAt(t);
        Three goal = now.threeAt(u);
        if (sender == null || goal == null) {
            return NONE;
        }
        if (holdsBit(now.knowersOf(u, f), goal.settledPlaceOf(EAR))) {
            return 0;
        }
        return sender.sendWord(now.knowersOf(t, f), what == 0);
    }

    public int talk(int t, int u, int f) {
        Three one = now.threeAt(t);
        Three other = now.threeAt(u);
        if (t == u || one == null || other == null || !within(f, 0, FACTS - 1)) {
            return NONE;
        }
        int knowers = now.knowersOf(t, f) + (now.knowersOf(u, f) << MEMBERS);
        return talk.fewestActs(9 * one.mouthAndEar() + other.mouthAndEar(), knowers);
    }

    public boolean danger(int place, int member, int thing, int v) {
        if (!within(place, 0, MOST_PLACES - 1) || !within(member, 0, MEMBERS - 1)
                || !within(thing, 0, THINGS - 1) || !within(v, 0, 9)) {
            return false;
        }
        now.tables.dangers[dangerAt(place, member, thing)] = v;
        return true;
    }

    public int way(int n, int toll, int what) {
        if (!within(n, 1, MOST_PLACES) || !within(toll, 0, 9)) {
            return NONE;
        }
        if (what != 0 && !within(what, 10, 9 + n)) {
            return NONE;
        }
        way.find(now.tables.dangers, n, toll);
        return what == 0 ? way.cost : way.holders[what - 10];
    }

    public boolean spot(int s, int weight, int time) {
        if (!within(s, 0, SPOTS - 1) || !within(weight, 0, 99) || !within(time, 1, 9)) {
            return false;
        }
        now.tables.weights[s] = weight;
        now.tables.times[s] = time;
        return true;
    }

    public int felt() {
        return feelers.leastSum(now.tables.weights, now.tables.times);
    }

    public int liars() {
        return now.book.fewestLiars();
    }

    public int watch(int minutes) {
        return now.tables.addWatch(minutes);
    }

    public int watches(int what) {
        int count = now.tables.watchCount;
        if (what != 0 && !within(what, 10, 9 + count)) {
            return NONE;
        }
        deal.find(now.tables.watches, count);
        return what == 0 ? deal.spread : deal.best[what - 10];
    }

    public boolean lends(int three, int x, int y, boolean would) {
        if (now.threeAt(three) == null || x == y
                || !within(x, 0, THINGS - 1) || !within(y, 0, THINGS - 1)) {
            return false;
        }
        int[] lent = now.tables.lent;
        lent[three] = withBit(lent[three], THINGS * x + y, would);
        return true;
    }

    public int ring() {
        return now.tables.smallestRing(now.count);
    }

    public boolean image(boolean taken) {
        if (taken) {
            if (kept == null) {
                kept = new World();
            }
            kept.copyFrom(now);
            return true;
        }
        if (kept == null) {
            return false;
        }
        now.copyFrom(kept);
        return true;
    }

    public int look(int what) {
        switch (what) {
            case 0: return now.count;
            case 1: return now.minute;
            case 2: return now.book.lines;
            case 3: return now.tables.watchCount;
            case 4: return now.state;
            case 5: return now.sunset;
            case 6: return now.noiseCount;
            default: return within(what, 10, 9 + FACTS) ? now.facts[what - 10] : NONE;
        }
    }

    private static boolean within(int v, int least, int most) {
        return v >= least && v <= most;
    }

    private static boolean holdsBit(int bits, int i) {
        return (bits >> i & 1) != 0;
    }

    private static int withBit(int bits, int i, boolean set) {
        return set ? bits | 1 << i : bits & ~(1 << i);
    }

    private static int dangerAt(int place, int member, int thing) {
        return (place * MEMBERS + member) * THINGS + thing;
    }

    /** The STEPS of a PLAN, as rows. */
    private static final class Plan {
        final int[] kinds = new int[MOST_STEPS];
        final int[] things = new int[MOST_STEPS];
        // A MEMBER, FACT, SPOT or count of minutes, as the kind has it.
        final int[] numbers = new int[MOST_STEPS];
        final int[] hearers = new int[MOST_STEPS];
        int size;

        void add(int kind, int thing, int number, int hearer) {
            if (!within(size, 0, MOST_STEPS - 1)) {
                return;
            }
            kinds[size] = kind;
            things[size] = thing;
            numbers[size] = number;
            hearers[size] = hearer;
            size++;
        }

        void copyFrom(Plan other) {
            System.arraycopy(other.kinds, 0, kinds, 0, MOST_STEPS);
            System.arraycopy(other.things, 0, things, 0, MOST_STEPS);
            System.arraycopy(other.numbers, 0, numbers, 0, MOST_STEPS);
            System.arraycopy(other.hearers, 0, hearers, 0, MOST_STEPS);
            size = other.size;
        }
    }

    /** A THREE: its things, its PLAN, and what takes it more than a minute just now. */
    private static final class Three {
        int hand;
        int drop;
        int handed;
        int dropped;
        int missed;
        final int[] places = new int[THINGS];
        final Plan plan = new Plan();
        int next;
        int left;
        // What it does while minutes are left; apart from the PLAN, since a hand-over outlives the one
        // that began it.
        int doing;
        int thing;
        int target;

        void copyFrom(Three other) {
            hand = other.hand;
            drop = other.drop;
            handed = other.handed;
            dropped = other.dropped;
            missed = other.missed;
            System.arraycopy(other.places, 0, places, 0, THINGS);
            plan.copyFrom(other.plan);
            next = other.next;
            left = other.left;
            doing = other.doing;
            thing = other.thing;
            target = other.target;
        }

        void follow(Plan told) {
            plan.copyFrom(told);
            next = 0;
            if (doing != GIVE) {
                left = 0;
            }
        }

        void occupy(int how, int minutes, int which, int goal) {
            doing = how;
            left = minutes;
            thing = which;
            target = goal;
        }

        int placeOf(int asked) {
            return within(asked, 0, THINGS - 1) ? places[asked] : NONE;
        }

        int holderOf(int asked) {
            boolean held = within(asked, 0, THINGS - 1) && within(places[asked], 0, MEMBERS - 1);
            return held ? places[asked] : NONE;
        }

        /** Who has a THING once hand-overs are done, none dropped and nothing lies on a SPOT. */
        int settledPlaceOf(int asked) {
            int place = placeOf(asked) == HANDED_OVER ? target : placeOf(asked);
            return within(place, 0, MEMBERS - 1) ? place : 0;
        }

        int mouthAndEar() {
            return MEMBERS * settledPlaceOf(MOUTH) + settledPlaceOf(EAR);
        }

        /**
         * What it takes till a FACT is said outside. No search is needed: only who has the MOUTH can say
         * it, so if he neither KNOWS it nor can see it himself one hand-over must be, and one is enough:
         * the MOUTH to one who KNOWS it or, if nobody does, to the one with the EYE.
         */
        int sendWord(int knowers, boolean inMinutes) {
            int speaker = settledPlaceOf(MOUTH);
            boolean speakerKnows = holdsBit(knowers, speaker);
            int handOvers = speakerKnows || speaker == settledPlaceOf(EYE) ? 0 : 1;
            if (!inMinutes) {
                return handOvers;
            }
            boolean needsSight = handOvers == 0 ? !speakerKnows : knowers == 0;
            return handOvers * hand + (needsSight ? 1 : 0) + 1;
        }

        int firstWithEmptyHands() {
            for (int m = 0; m < MEMBERS; m++) {
                if (places[EYE] != m && places[EAR] != m && places[MOUTH] != m) {
                    return m;
                }
            }
            return 0;
        }

        int tell(int what) {
            switch (what) {
                case 0: return hand;
                case 1: return drop;
                case 2: return handed;
                case 3: return dropped;
                case 4: return plan.size;
                case 5: return next;
                case 6: return left;
                case 7: return missed;
                default: return NONE;
            }
        }
    }

    /** What one KNOWS with its ORIGIN, whom he TRUSTS, what he heard and had. */
    private static final class Person {
        final int[] known = new int[FACTS];
        final int[] witness = new int[FACTS];
        final int[] seenAt = new int[FACTS];
        final int[] sayings = new int[FACTS];
        final int[] lies = new int[FACTS];
        final int[] minutesHeld = new int[THINGS];
        int noisesHeard;
        // A bit for each THREE, those that come later too.
        int trusted = (1 << MOST_THREES) - 1;

        void copyFrom(Person other) {
            System.arraycopy(other.known, 0, known, 0, FACTS);
            System.arraycopy(other.witness, 0, witness, 0, FACTS);
            System.arraycopy(other.seenAt, 0, seenAt, 0, FACTS);
            System.arraycopy(other.sayings, 0, sayings, 0, FACTS);
            System.arraycopy(other.lies, 0, lies, 0, FACTS);
            System.arraycopy(other.minutesHeld, 0, minutesHeld, 0, THINGS);
            noisesHeard = other.noisesHeard;
            trusted = other.trusted;
        }

        int knowledgeOf(int f) {
            return within(f, 0, FACTS - 1) ? known[f] : NONE;
        }

        int originOf(int f, int what) {
            if (!within(f, 0, FACTS - 1) || known[f] == NOTHING) {
                return NONE;
            }
            switch (what) {
                case 0: return witness[f];
                case 1: return seenAt[f];
                case 2: return sayings[f];
                case 3: return lies[f];
                default: return NONE;
            }
        }

        void seeFact(int f, int knowledge, int self, int minute) {
            if (!within(f, 0, FACTS - 1)) {
                return;
            }
            known[f] = knowledge;
            witness[f] = self;
            seenAt[f] = minute;
            sayings[f] = 0;
            lies[f] = 0;
        }

        void believe(int f, int knowledge, Person sayer, boolean lying) {
            if (!within(f, 0, FACTS - 1) || sayer == null) {
                return;
            }
            known[f] = knowledge;
            witness[f] = sayer.witness[f];
            seenAt[f] = sayer.seenAt[f];
            sayings[f] = sayer.sayings[f] + 1;
            lies[f] = sayer.lies[f] + (lying ? 1 : 0);
        }
    }

    /** THE BOOK of sayings. */
    private static final class Book {
        final int[] sayers = new int[MOST_LINES];
        final int[] facts = new int[MOST_LINES];
        final int[] said = new int[MOST_LINES];
        final int[] hearers = new int[MOST_LINES];
        final int[] minutes = new int[MOST_LINES];
        int lines;
        // Rows for LIARS: who said of each FACT that it is so, and that it is not.
        final int[] saidSo = new int[FACTS];
        final int[] saidNot = new int[FACTS];

        void copyFrom(Book other) {
            System.arraycopy(other.sayers, 0, sayers, 0, MOST_LINES);
            System.arraycopy(other.facts, 0, facts, 0, MOST_LINES);
            System.arraycopy(other.said, 0, said, 0, MOST_LINES);
            System.arraycopy(other.hearers, 0, hearers, 0, MOST_LINES);
            System.arraycopy(other.minutes, 0, minutes, 0, MOST_LINES);
            lines = other.lines;
        }

        void write(int sayer, int f, boolean so, int hearer, int minute) {
            if (!within(lines, 0, MOST_LINES - 1)) {
                return;
            }
            sayers[lines] = sayer;
            facts[lines] = f;
            said[lines] = so ? 1 : 0;
            hearers[lines] = hearer;
            minutes[lines] = minute;
            lines++;
        }

        int tell(int i, int what) {
            if (!within(i, 0, lines - 1) || i >= MOST_LINES) {
                return NONE;
            }
            switch (what) {
                case 0: return sayers[i];
                case 1: return facts[i];
                case 2: return said[i];
                case 3: return hearers[i];
                case 4: return minutes[i];
                default: return NONE;
            }
        }

        int fewestLiars() {
            int all = gatherSayers();
            int best = all;
            // Sets come as rising numbers, so the first with the fewest is the least of these.
            for (int set = 0; set < 1 << MOST_PEOPLE; set++) {
                if ((set & ~all) == 0 && Integer.bitCount(set) < Integer.bitCount(best) && agreeWithout(set)) {
                    best = set;
                }
            }
            return best;
        }

        private int gatherSayers() {
            int all = 0;
            Arrays.fill(saidSo, 0);
            Arrays.fill(saidNot, 0);
            for (int i = 0; i < lines && i < MOST_LINES; i++) {
                int f = facts[i];
                if (within(f, 0, FACTS - 1)) {
                    int[] side = said[i] == 1 ? saidSo : saidNot;
                    side[f] = withBit(side[f], sayers[i], true);
                    all = withBit(all, sayers[i], true);
                }
            }
            return all;
        }

        private boolean agreeWithout(int set) {
            for (int f = 0; f < FACTS; f++) {
                if ((saidSo[f] & ~set) != 0 && (saidNot[f] & ~set) != 0) {
                    return false;
                }
            }
            return true;
        }
    }

    /** What is told for thoughts alone: DANGERS, SPOTS, WATCHES and what a THREE would LEND. */
    private static final class Tables {
        final int[] dangers = new int[MOST_PLACES * MEMBERS * THINGS];
        final int[] weights = new int[SPOTS];
        final int[] times = new int[SPOTS];
        final int[] watches = new int[MOST_WATCHES];
        int watchCount;
        // Of each THREE a bit for each pair (3 times its THING, and the THING that it would have for it).
        final int[] lent = new int[MOST_THREES];

        Tables() {
            Arrays.fill(times, 1);
        }

        void copyFrom(Tables other) {
            System.arraycopy(other.dangers, 0, dangers, 0, MOST_PLACES * MEMBERS * THINGS);
            System.arraycopy(other.weights, 0, weights, 0, SPOTS);
            System.arraycopy(other.times, 0, times, 0, SPOTS);
            System.arraycopy(other.watches, 0, watches, 0, MOST_WATCHES);
            System.arraycopy(other.lent, 0, lent, 0, MOST_THREES);
            watchCount = other.watchCount;
        }

        int addWatch(int minutes) {
            if (!within(minutes, 1, 99) || !within(watchCount, 0, MOST_WATCHES - 1)) {
                return NONE;
            }
            watches[watchCount] = minutes;
            watchCount++;
            return watchCount - 1;
        }

        int smallestRing(int threes) {
            for (int size = 2; size <= MOST_THREES; size++) {
                for (int set = 1; set < 1 << threes && set < 1 << MOST_THREES; set++) {
                    if (Integer.bitCount(set) == size && closes(set)) {
                        return set;
                    }
                }
            }
            return NONE;
        }

        /** Whether the THREES of a set lend round; a ring may be told from any of them, here the least. */
        private boolean closes(int set) {
            int first = 0;
            while (first < MOST_THREES - 1 && !holdsBit(set, first)) {
                first++;
            }
            for (int got = 0; got < THINGS; got++) {
                if (goesRound(first, got, withBit(set, first, false), got)) {
                    return true;
                }
            }
            return false;
        }

        /** Whether a THREE that gets a THING can lend on, through all the rest, till the first gets its own. */
        private boolean goesRound(int three, int got, int rest, int wanted) {
            for (int given = 0; given < THINGS; given++) {
                if (wouldLend(three, given, got)) {
                    if (rest == 0 ? given == wanted : goesOn(given, rest, wanted)) {
                        return true;
                    }
                }
            }
            return false;
        }

        // Each call takes one THREE out of the rest, so this goes at most four deep.
        private boolean goesOn(int given, int rest, int wanted) {
            for (int next = 0; next < MOST_THREES; next++) {
                if (holdsBit(rest, next) && goesRound(next, given, withBit(rest, next, false), wanted)) {
                    return true;
                }
            }
            return false;
        }

        private boolean wouldLend(int three, int given, int got) {
            return within(three, 0, MOST_THREES - 1) && holdsBit(lent[three], THINGS * given + got);
        }
    }

    /** All that THE IMAGE keeps, and how a MINUTE goes by in it. */
    private static final class World {
        final Three[] threes = new Three[MOST_THREES];
        final Person[] people = new Person[MOST_PEOPLE];
        int count;
        final int[] facts = new int[FACTS];
        final Book book = new Book();
        final Tables tables = new Tables();
        final int[] noises = new int[MOST_NOISES];
        int noiseCount;
        int state;
        int minute;
        int sunset = NONE;

        World() {
            for (int t = 0; t < MOST_THREES; t++) {
                threes[t] = new Three();
            }
            for (int p = 0; p < MOST_PEOPLE; p++) {
                people[p] = new Person();
            }
        }

        void copyFrom(World other) {
            for (int t = 0; t < MOST_THREES; t++) {
                threes[t].copyFrom(other.threes[t]);
            }
            for (int p = 0; p < MOST_PEOPLE; p++) {
                people[p].copyFrom(other.people[p]);
            }
            count = other.count;
            System.arraycopy(other.facts, 0, facts, 0, FACTS);
            book.copyFrom(other.book);
            tables.copyFrom(other.tables);
            System.arraycopy(other.noises, 0, noises, 0, MOST_NOISES);
            noiseCount = other.noiseCount;
            state = other.state;
            minute = other.minute;
            sunset = other.sunset;
        }

        Three threeAt(int t) {
            return within(t, 0, count - 1) && t < MOST_THREES ? threes[t] : null;
        }

        Person personAt(int p) {
            return within(p, 0, MEMBERS * count - 1) && p < MOST_PEOPLE ? people[p] : null;
        }

        Person personOf(int t, int member) {
            boolean there = within(t, 0, count - 1) && t < MOST_THREES && within(member, 0, MEMBERS - 1);
            return there ? people[MEMBERS * t + member] : null;
        }

        int addThree(int hand, int drop) {
            if (!within(count, 0, MOST_THREES - 1)) {
                return NONE;
            }
            threes[count].hand = hand;
            threes[count].drop = drop;
            count++;
            return count - 1;
        }

        int addNoise(int at) {
            if (!within(at, minute, LAST_MINUTE) || !within(noiseCount, 0, MOST_NOISES - 1)) {
                return NONE;
            }
            noises[noiseCount] = at;
            noiseCount++;
            return noiseCount - 1;
        }

        /** The MEMBERS of a THREE who KNOW something of a FACT, a bit for each. */
        int knowersOf(int t, int f) {
            int bits = 0;
            for (int m = 0; m < MEMBERS; m++) {
                Person person = personOf(t, m);
                if (person != null && person.knowledgeOf(f) > NOTHING) {
                    bits = withBit(bits, m, true);
                }
            }
            return bits;
        }

        void passMinute() {
            int hour = minute % DAY;
            if (hour == 0) {
                sunset = 120 + draw(61);
            }
            for (int t = 0; t < count; t++) {
                act(t, hour >= sunset);
            }
            int loud = noisesNow();
            for (int t = 0; t < count; t++) {
                endMinute(t, loud);
            }
            minute++;
        }

        private int draw(int m) {
            state = 1664525 * state + 1013904223;
            return m < 1 ? 0 : (state >>> 8) % m;
        }

        private void act(int t, boolean night) {
            Three three = threeAt(t);
            if (three == null) {
                return;
            }
            if (three.left == 0 && three.next < three.plan.size) {
                three.next++;
                begin(t, three, three.next - 1, night);
            }
            // The MINUTE in which something begins counts, too.
            if (three.left > 0) {
                workOn(three);
            }
        }

        private void begin(int t, Three three, int step, boolean night) {
            if (!within(step, 0, MOST_STEPS - 1)) {
                return;
            }
            Plan plan = three.plan;
            int kind = plan.kinds[step];
            int number = plan.numbers[step];
            switch (kind) {
                case GIVE:
                    give(three, plan.things[step], number);
                    break;
                case SEE:
                    if (!night) {
                        see(t, three, number);
                    }
                    break;
                case SAY:
                case LIE:
                    speak(t, three, number, plan.hearers[step], kind == LIE);
                    break;
                case REST:
                    three.occupy(REST, number, NONE, NONE);
                    break;
                case FEEL:
                    three.occupy(FEEL, 2, plan.things[step], number);
                    break;
                default:
                    break;
            }
        }

        private void give(Three three, int thing, int member) {
            int holder = three.holderOf(thing);
            if (holder == NONE || holder == member) {
                return;
            }
            three.places[thing] = HANDED_OVER;
            three.occupy(GIVE, three.hand, thing, member);
        }

        private void see(int t, Three three, int f) {
            int holder = three.holderOf(EYE);
            Person person = personOf(t, holder);
            if (person != null && within(f, 0, FACTS - 1)) {
                person.seeFact(f, facts[f] == 1 ? IS_SO : IS_NOT, MEMBERS * t + holder, minute);
            }
        }

        private void speak(int t, Three three, int f, int to, boolean lying) {
            Three listeners = threeAt(to);
            if (listeners == null) {
                return;
            }
            int mouth = three.holderOf(MOUTH);
            int ear = listeners.holderOf(EAR);
            Person sayer = personOf(t, mouth);
            Person hearer = personOf(to, ear);
            if (sayer == null || hearer == null || sayer.knowledgeOf(f) <= NOTHING) {
                return;
            }
            boolean so = (sayer.knowledgeOf(f) == IS_SO) != lying;
            book.write(MEMBERS * t + mouth, f, so, MEMBERS * to + ear, minute);
            if (holdsBit(hearer.trusted, t)) {
                hearer.believe(f, so ? IS_SO : IS_NOT, sayer, lying);
            }
        }

        private void workOn(Three three) {
            three.left--;
            if (three.left > 0) {
                return;
            }
            if (three.doing == GIVE) {
                finishGiving(three);
            } else if (three.doing == FEEL) {
                finishFeeling(three);
            }
        }

        private void finishGiving(Three three) {
            three.handed++;
            int place = three.target;
            if (three.drop > 0 && draw(1000) < three.drop) {
                three.dropped++;
                place = ON_SPOT + draw(SPOTS);
            }
            if (within(three.thing, 0, THINGS - 1)) {
                three.places[three.thing] = place;
            }
        }

        private void finishFeeling(Three three) {
            if (within(three.thing, 0, THINGS - 1) && three.places[three.thing] == ON_SPOT + three.target) {
                three.places[three.thing] = three.firstWithEmptyHands();
            }
        }

        private int noisesNow() {
            int loud = 0;
            for (int i = 0; i < noiseCount && i < MOST_NOISES; i++) {
                if (noises[i] == minute) {
                    loud++;
                }
            }
            return loud;
        }

        private void endMinute(int t, int loud) {
            Three three = threeAt(t);
            if (three == null) {
                return;
            }
            for (int thing = 0; thing < THINGS; thing++) {
                Person holder = personOf(t, three.places[thing]);
                if (holder != null) {
                    holder.minutesHeld[thing]++;
                }
            }
            if (loud > 0) {
                hearNoises(t, three, loud);
            }
        }

        private void hearNoises(int t, Three three, int loud) {
            Person listener = personOf(t, three.places[EAR]);
            if (listener != null) {
                listener.noisesHeard += loud;
            } else {
                three.missed += loud;
            }
        }
    }

    /** The TAPE, its TOKENS, and the PLAN that they tell. */
    private static final class Reader {
        private static final int MISPLACED = 1;
        private static final int OUT_OF_BOUNDS = 2;
        private static final int TOO_MANY = 3;

        private static final int BLANK = 0;
        private static final int LETTER = 1;
        private static final int DIGIT = 2;
        private static final int OTHER = 3;

        final int[] tape = new int[MOST_BYTES];
        int length;
        final Plan draft = new Plan();
        int fault;
        int place = NONE;
        // Each TOKEN, its place and a NUMBER's value; one more than there are bytes, for the end.
        private final int[] tokens = new int[MOST_BYTES + 1];
        private final int[] places = new int[MOST_BYTES + 1];
        private final int[] values = new int[MOST_BYTES + 1];
        private int count;
        private int current;

        void append(int word) {
            for (int shift = 24; shift >= 0; shift -= 8) {
                if (within(length, 0, MOST_BYTES - 1)) {
                    tape[length] = word >>> shift & 255;
                    length++;
                }
            }
        }

        /** Makes the TAPE's bytes TOKENS, and empties it; what was at fault is forgotten. */
        void takeTape() {
            fault = 0;
            place = NONE;
            count = 0;
            current = 0;
            int at = endOfRun(0, BLANK);
            for (int i = 0; i < MOST_BYTES && at < length; i++) {
                int sort = sortOf(signAt(at));
                int behind = sort == OTHER ? at + 1 : endOfRun(at, sort);
                takeToken(sort, at, behind);
                at = endOfRun(behind, BLANK);
            }
            keepToken(END, length, 0);
            length = 0;
        }

        private void takeToken(int sort, int at, int behind) {
            if (sort == LETTER) {
                keepToken(wordAt(at, behind), at, 0);
            } else if (sort == DIGIT) {
                keepToken(behind - at > MOST_DIGITS ? NO_TOKEN : NUMBER, at, valueAt(at, behind));
            } else {
                keepToken(signAt(at) == ';' ? SEMICOLON : NO_TOKEN, at, 0);
            }
        }

        private void keepToken(int token, int at, int value) {
            if (within(count, 0, MOST_BYTES)) {
                tokens[count] = token;
                places[count] = at;
                values[count] = value;
                count++;
            }
        }

        private int signAt(int i) {
            return i >= 0 && i < length && i < MOST_BYTES ? tape[i] : NONE;
        }

        private static int sortOf(int sign) {
            if (sign == ' ' || sign == 10) {
                return BLANK;
            }
            if (within(sign, 'a', 'z') || within(sign, 'A', 'Z')) {
                return LETTER;
            }
            return within(sign, '0', '9') ? DIGIT : OTHER;
        }

        private int endOfRun(int from, int sort) {
            int i = from;
            while (i < length && sortOf(signAt(i)) == sort) {
                i++;
            }
            return i;
        }

        private int wordAt(int at, int behind) {
            if (behind - at > LONGEST_WORD) {
                return NO_TOKEN;
            }
            for (int w = 0; w < WORD_COUNT; w++) {
                if (isWord(w, at, behind)) {
                    return w;
                }
            }
            return NO_TOKEN;
        }

        private boolean isWord(int w, int at, int behind) {
            for (int i = 0; i < LONGEST_WORD; i++) {
                int sign = at + i < behind ? signAt(at + i) : ' ';
                int letter = LONGEST_WORD * w + i;
                if (!within(letter, 0, WORDS.length() - 1) || WORDS.charAt(letter) != sign) {
                    return false;
                }
            }
            return true;
        }

        private int valueAt(int at, int behind) {
            int value = 0;
            for (int i = at; i < behind && i < at + MOST_DIGITS; i++) {
                value = 10 * value + signAt(i) - '0';
            }
            return value;
        }

        /** Reads the TOKENS into the draft, up to the first FAULT; false if there is one. */
        boolean readPlan(int threes) {
            draft.size = 0;
            for (int i = 0; i <= MOST_STEPS && fault == 0 && token() != END; i++) {
                readStep(threes);
            }
            return fault == 0;
        }

        private void readStep(int threes) {
            int kind = token();
            if (within(kind, GIVE, FEEL) && draft.size >= MOST_STEPS) {
                blame(TOO_MANY);
            }
            expect(GIVE, FEEL);
            int thing = kind == GIVE || kind == FEEL ? expect(EYE_WORD, MOUTH_WORD) - EYE_WORD : NONE;
            int number = expectNumber(kind == REST ? 1 : 0, mostOf(kind));
            int hearer = NONE;
            if (kind == SAY || kind == LIE) {
                expect(TO, TO);
                hearer = expectNumber(0, threes - 1);
            }
            expect(SEMICOLON, SEMICOLON);
            if (fault == 0) {
                draft.add(kind, thing, number, hearer);
            }
        }

        private static int mostOf(int kind) {
            switch (kind) {
                case GIVE: return MEMBERS - 1;
                case REST: return 99;
                case FEEL: return SPOTS - 1;
                default: return FACTS - 1;
            }
        }

        private int token() {
            return within(current, 0, count - 1) ? tokens[current] : END;
        }

        /** The TOKEN, if it is one of these; if not, nothing behind it is looked at any more. */
        private int expect(int least, int most) {
            int met = token();
            if (!within(met, least, most)) {
                blame(MISPLACED);
            }
            if (fault == 0) {
                current++;
            }
            return met;
        }

        private int expectNumber(int least, int most) {
            int value = within(current, 0, MOST_BYTES) ? values[current] : 0;
            if (token() == NUMBER && !within(value, least, most)) {
                blame(OUT_OF_BOUNDS);
            }
            expect(NUMBER, NUMBER);
            return value;
        }

        private void blame(int which) {
            if (fault == 0 && within(current, 0, MOST_BYTES)) {
                fault = which;
                place = places[current];
            }
        }
    }

    /**
     * TALK, searched act by act. The EYES do not matter, so there are 81 positions of the MOUTHS and EARS
     * (27 and 9 of the one THREE, 3 and 1 of the other one). All sets of knowers that may be at a position
     * stand in one long, a bit for each of the 64 sets, so that an act goes for all of them at once.
     */
    private static final class Talk {
        private static final int POSITIONS = 81;
        private static final int FAR_ABOVE_ANY_TALK = 100;
        // Of each of the six the sets of which he is one.
        private static final long[] SETS_WITH = {
            0xAAAAAAAAAAAAAAAAL, 0xCCCCCCCCCCCCCCCCL, 0xF0F0F0F0F0F0F0F0L,
            0xFF00FF00FF00FF00L, 0xFFFF0000FFFF0000L, 0xFFFFFFFF00000000L};

        final long[] reached = new long[POSITIONS];
        final long[] edge = new long[POSITIONS];
        final long[] ahead = new long[POSITIONS];

        int fewestActs(int position, int knowers) {
            if (!within(position, 0, POSITIONS - 1) || !within(knowers, 1, 63)) {
                return NONE;
            }
            Arrays.fill(reached, 0L);
            Arrays.fill(ahead, 0L);
            ahead[position] = 1L << knowers;
            for (int acts = 0; acts < FAR_ABOVE_ANY_TALK; acts++) {
                if (moveEdge()) {
                    return acts;
                }
                for (int p = 0; p < POSITIONS; p++) {
                    if (edge[p] != 0L) {
                        handOverFrom(p);
                        sayFrom(p);
                    }
                }
            }
            return NONE;
        }

        /** What is new becomes the edge; true if all six KNOW in some of it. */
        private boolean moveEdge() {
            boolean all = false;
            for (int p = 0; p < POSITIONS; p++) {
                edge[p] = ahead[p] & ~reached[p];
                reached[p] |= edge[p];
                ahead[p] = 0L;
                all |= edge[p] >>> 63 != 0L;
            }
            return all;
        }

        // A hand-over to the one who has the thing leads nowhere new, so it needs no test.
        private void handOverFrom(int p) {
            for (int m = 0; m < MEMBERS; m++) {
                ahead[p % 27 + 27 * m] |= edge[p];
                ahead[p / 27 * 27 + p % 9 + 9 * m] |= edge[p];
                ahead[p / 9 * 9 + p % 3 + 3 * m] |= edge[p];
                ahead[p / 3 * 3 + m] |= edge[p];
            }
        }

        private void sayFrom(int p) {
            int oneEar = p / 9 % 3;
            int otherEar = MEMBERS + p % 3;
            int oneMouth = p / 27 % 3;
            int otherMouth = MEMBERS + p / 3 % 3;
            say(p, oneMouth, oneEar);
            say(p, oneMouth, otherEar);
            say(p, otherMouth, oneEar);
            say(p, otherMouth, otherEar);
        }

        // The hearer comes into the set: its number, which is its bit's place, has 2 to the hearer more.
        private void say(int p, int sayer, int hearer) {
            if (within(p, 0, POSITIONS - 1) && within(sayer, 0, 5) && within(hearer, 0, 5)) {
                ahead[p] |= (edge[p] & SETS_WITH[sayer] & ~SETS_WITH[hearer]) << (1 << hearer);
            }
        }
    }

    /**
     * A WAY. No THING's DANGERS and TOLLS depend on the others', so each goes its own way, and the first of
     * the best ways is each THING's first one.
     */
    private static final class Way {
        final int[] holders = new int[MOST_PLACES];
        int cost;
        // At PLACE and MEMBER what is yet to come, that PLACE counted.
        private final int[] toCome = new int[MOST_PLACES * MEMBERS];

        void find(int[] dangers, int n, int toll) {
            int last = Math.min(n, MOST_PLACES) - 1;
            cost = 0;
            Arrays.fill(holders, 0);
            for (int thing = 0; thing < THINGS; thing++) {
                for (int place = last; place >= 0; place--) {
                    weigh(dangers, thing, place, place == last, toll);
                }
                cost += walk(last, toll);
            }
        }

        private void weigh(int[] dangers, int thing, int place, boolean last, int toll) {
            for (int m = 0; m < MEMBERS; m++) {
                int next = cheapest(place + 1, m, toll);
                int rest = last ? 0 : costFrom(place + 1, next, m, toll);
                toCome[place * MEMBERS + m] = dangers[dangerAt(place, m, thing)] + rest;
            }
        }

        private int walk(int last, int toll) {
            int holder = cheapest(0, 0, 0);
            int whole = costFrom(0, holder, holder, 0);
            for (int place = 0; place <= last; place++) {
                if (place > 0) {
                    holder = cheapest(place, holder, toll);
                }
                holders[place] = MEMBERS * holders[place] + holder;
            }
            return whole;
        }

        private int costFrom(int place, int member, int before, int toll) {
            int at = place * MEMBERS + member;
            int ahead = within(at, 0, MOST_PLACES * MEMBERS - 1) ? toCome[at] : 0;
            return ahead + (member == before ? 0 : toll);
        }

        private int cheapest(int place, int before, int toll) {
            int best = 0;
            for (int m = 1; m < MEMBERS; m++) {
                if (costFrom(place, m, before, toll) < costFrom(place, best, before, toll)) {
                    best = m;
                }
            }
            return best;
        }
    }

    /**
     * FELT. Each of the two feels best by falling WEIGHT to TIME, so the SPOTS are dealt out in that order,
     * and all that matters of what was dealt is how long the first of the two has felt.
     */
    private static final class Feelers {
        private static final int LONGEST = 81;
        private static final int FAR = 1 << 28;

        private final int[] least = new int[LONGEST + 1];

        int leastSum(int[] weights, int[] times) {
            Arrays.fill(least, FAR);
            least[0] = 0;
            int gone = 0;
            int dealt = 0;
            for (int i = 0; i < SPOTS; i++) {
                int s = worthiestBut(dealt, weights, times);
                dealOut(weights[s], times[s], gone);
                gone += times[s];
                dealt = withBit(dealt, s, true);
            }
            int best = FAR;
            for (int first = 0; first <= LONGEST; first++) {
                best = Math.min(best, least[first]);
            }
            return best;
        }

        private int worthiestBut(int dealt, int[] weights, int[] times) {
            int best = 0;
            for (int s = 1; s < SPOTS; s++) {
                boolean worthier = weights[s] * times[best] > weights[best] * times[s];
                if (!holdsBit(dealt, s) && (worthier || holdsBit(dealt, best))) {
                    best = s;
                }
            }
            return best;
        }

        // From the longest down: a sum that moves up must not be dealt the same SPOT again.
        private void dealOut(int weight, int time, int gone) {
            for (int first = Math.min(gone, LONGEST); first >= 0; first--) {
                int before = least[first];
                least[first] = before == FAR ? FAR : before + weight * (gone - first + time);
                int longer = first + time;
                if (before != FAR && within(longer, 0, LONGEST)) {
                    least[longer] = Math.min(least[longer], before + weight * longer);
                }
            }
        }
    }

    /** WATCHES dealt to MEMBERS, the ways tried in their order, so that the first of the best is kept. */
    private static final class Deal {
        private static final int WIDER_THAN_ANY = 1000000;

        final int[] best = new int[MOST_WATCHES];
        int spread;
        private final int[] tried = new int[MOST_WATCHES];
        private final int[] loads = new int[MEMBERS];

        void find(int[] watches, int count) {
            Arrays.fill(loads, 0);
            spread = WIDER_THAN_ANY;
            deal(watches, Math.min(count, MOST_WATCHES), 0, 0);
        }

        // MEMBERS are alike, so in the first way a MEMBER never comes ahead of one with a lesser number.
        private void deal(int[] watches, int count, int i, int used) {
            if (i >= count || i >= MOST_WATCHES) {
                compare();
                return;
            }
            for (int m = 0; m < MEMBERS && m <= used; m++) {
                tried[i] = m;
                loads[m] += watches[i];
                deal(watches, count, i + 1, Math.max(used, m + 1));
                loads[m] -= watches[i];
            }
        }

        private void compare() {
            int most = Math.max(loads[0], Math.max(loads[1], loads[2]));
            int fewest = Math.min(loads[0], Math.min(loads[1], loads[2]));
            if (most - fewest < spread) {
                spread = most - fewest;
                System.arraycopy(tried, 0, best, 0, MOST_WATCHES);
            }
        }
    }
}
