import java.util.Arrays;

/** A town in which nobody may carry what is his; README.md says how to use it. */
public final class NobodyCarries {
    private static final int MOST_PLACES = 7;
    private static final int MOST_PERSONS = 6;
    private static final int MOST_THINGS = 6;
    private static final int MOST_LETTERS = 64;
    private static final int MOST_IN_ROW = 6;

    private static final int NOBODY = -1;
    private static final int OTHER = -2;
    private static final int STATE = -3;
    private static final int BELOW = -4;
    private static final int ABOVE = -6;
    private static final int NONE = -9;

    private static final int LAW_KIN = 1;
    private static final int LAW_HOUR = 2;
    private static final int LAW_NONE = 3;
    private static final int LAW_NIGHT = 4;

    private static final int LAST_FROM = 720;
    private static final int NIGHTFALL = 720;
    private static final int GIVEN_FOR = 60;
    /** What a thing's place is, if a person carries it, less his number. */
    private static final int CARRIED = 10;
    /** Beyond every minute that a way can take, yet sums of a few stay an int. */
    private static final int FAR = 1000000;
    private static final int MISSED = 999;

    private final Town now;
    private final Town trial;
    private final Town kept;
    private final Letters letters;
    private final Mind mind;
    private final Deal deal;
    private final int[] line;
    private final int[] refusals;
    private int lined;
    private boolean imaged;

    /** Four places, nobody. */
    public NobodyCarries() {
        now = new Town();
        trial = new Town();
        kept = new Town();
        letters = new Letters();
        mind = new Mind(now);
        deal = new Deal();
        line = new int[MOST_IN_ROW];
        refusals = new int[1 - ABOVE];
        lined = 0;
        imaged = false;
    }

    /** A letter comes: how many there are. */
    public int letter(int c) {
        if (c < 0) {
            return refuse(BELOW);
        }
        if (c > 255 || !letters.add(c)) {
            return refuse(ABOVE);
        }
        return letters.length;
    }

    /** The letters become a town: how many statements, or the fault. */
    public int town() {
        int bad = letters.firstBadSign();
        int answer = bad < 0 ? tellStatements() : -1000 - bad;
        letters.length = 0;
        return answer;
    }

    /** The least minutes between two places. */
    public int minutes(int from, int to) {
        if (!now.isPlace(from) || !now.isPlace(to)) {
            return refuse(NOBODY);
        }
        int least = now.leastBetween(from, to);
        return least >= FAR ? NONE : least;
    }

    /** What is told of a person, and how he is now. */
    public int person(int person, int what) {
        if (!now.isPerson(person)) {
            return refuse(NOBODY);
        }
        if (what < 0 || what > 7) {
            return refuse(OTHER);
        }
        return what == 7 ? now.carriedBits(person) : now.people[person].tellOf(what);
    }

    /** What is told of a thing, and how it is now. */
    public int thing(int thing, int what) {
        if (!now.isThing(thing)) {
            return refuse(NOBODY);
        }
        if (what < 0 || what > 9) {
            return refuse(OTHER);
        }
        return now.goods[thing].tellOf(what);
    }

    /** Another law: what it was. */
    public int law(int v) {
        if (v < 0 || v > LAW_NIGHT) {
            return refuse(OTHER);
        }
        int was = now.law;
        now.law = v;
        return was;
    }

    /** Whether a person may carry a thing at a minute. */
    public int may(int person, int thing, int minute) {
        if (!now.isPerson(person) || !now.isThing(thing)) {
            return refuse(NOBODY);
        }
        if (minute < 0) {
            return refuse(BELOW);
        }
        if (minute > 9999) {
            return refuse(ABOVE);
        }
        return now.letsCarry(person, thing, minute) ? 1 : 0;
    }

    /** A person takes a thing that lies where he is: his clock then. */
    public int take(int person, int thing) {
        if (!now.isPerson(person) || !now.isThing(thing)) {
            return refuse(NOBODY);
        }
        return now.takeUp(person, thing) ? now.people[person].clock : refuse(STATE);
    }

    /** A person goes to a place: his clock then. */
    public int go(int person, int place) {
        if (!now.isPerson(person) || !now.isPlace(place)) {
            return refuse(NOBODY);
        }
        return now.walkTo(person, place) ? now.people[person].clock : refuse(STATE);
    }

    /** A person lays a thing down where he is: his clock. */
    public int lay(int person, int thing) {
        if (!now.isPerson(person) || !now.isThing(thing)) {
            return refuse(NOBODY);
        }
        return now.layDown(person, thing) ? now.people[person].clock : refuse(STATE);
    }

    /** A person hands a thing to another at the same place: their clock then. */
    public int hand(int person, int other, int thing) {
        if (!now.isPerson(person) || !now.isPerson(other) || person == other || !now.isThing(thing)) {
            return refuse(NOBODY);
        }
        return now.handOver(person, other, thing) ? now.people[person].clock : refuse(STATE);
    }

    /** A person waits: his clock then. */
    public int tarry(int person, int m) {
        if (!now.isPerson(person)) {
            return refuse(NOBODY);
        }
        if (m < 1) {
            return refuse(BELOW);
        }
        if (m > 600) {
            return refuse(ABOVE);
        }
        now.people[person].clock += m;
        return now.people[person].clock;
    }

    /** An owner gives a thing away for an hour: his clock. */
    public int give(int person, int thing) {
        if (!now.isPerson(person) || !now.isThing(thing)) {
            return refuse(NOBODY);
        }
        if (!now.goods[thing].isOf(person)) {
            return refuse(STATE);
        }
        now.goods[thing].given = now.people[person].clock;
        return now.people[person].clock;
    }

    /** How many things lie where they should, in time. */
    public int there() {
        int sum = 0;
        for (int t = 0; t < now.things; t++) {
            Thing thing = now.goods[t];
            if (thing.place == thing.to && thing.since <= thing.by) {
                sum++;
            }
        }
        return sum;
    }

    /** The least minute at which a thing can be where it should. */
    public int soonest(int thing) {
        if (!now.isThing(thing)) {
            return refuse(NOBODY);
        }
        mind.recall();
        return mind.soonestOf(thing);
    }

    /** Over whom a thing comes by that: how many, or the i-th. */
    public int over(int thing, int i) {
        if (!now.isThing(thing)) {
            return refuse(NOBODY);
        }
        if (i < -1) {
            return refuse(BELOW);
        }
        mind.recall();
        if (mind.soonestOf(thing) == NONE) {
            return NONE;
        }
        mind.traceBack(thing);
        return i < 0 ? mind.traced : mind.carrierAt(i);
    }

    /** Whom the law alone keeps from making a thing's coming possible. */
    public int bars(int thing) {
        if (!now.isThing(thing)) {
            return refuse(NOBODY);
        }
        mind.recall();
        return mind.barredBits(thing);
    }

    /** The things that can not be moved to where they should be. */
    public int never() {
        mind.recall();
        int bits = 0;
        for (int t = 0; t < now.things; t++) {
            if (mind.soonestOf(t) == NONE) {
                bits |= 1 << t;
            }
        }
        return bits;
    }

    /** Why a thing can not be. */
    public int why(int thing) {
        if (!now.isThing(thing)) {
            return refuse(NOBODY);
        }
        mind.recall();
        if (mind.soonestOf(thing) != NONE) {
            return 0;
        }
        if (!mind.somebodyComesBy(thing, now.goods[thing].at)) {
            return 1;
        }
        return mind.somebodyComesBy(thing, now.goods[thing].to) ? 4 : 2;
    }

    /** A person's round for one thing: the minute, or how much more it is. */
    public int round(int person, int thing, int what) {
        if (!now.isPerson(person) || !now.isThing(thing)) {
            return refuse(NOBODY);
        }
        if (what < 0 || what > 1) {
            return refuse(OTHER);
        }
        int minute = now.roundMinute(person, thing);
        return minute == NONE || what == 0 ? minute : now.roundMore(person, thing);
    }

    /** The best dealing out of things: its sum, or a person's thing. */
    public int each(int person) {
        if (person != -1 && !now.isPerson(person)) {
            return refuse(NOBODY);
        }
        int sum = deal.bestSum(now, NONE);
        return person < 0 ? sum : deal.thingOf(now, person);
    }

    /** How much less that sum would be without a person. */
    public int pay(int person) {
        if (!now.isPerson(person)) {
            return refuse(NOBODY);
        }
        return deal.bestSum(now, NONE) - deal.bestSum(now, person);
    }

    /** How many who own nothing are needed for all that is not in time. */
    public int fewest() {
        mind.recall();
        int needed = 0;
        for (int t = 0; t < now.things; t++) {
            if (mind.isInTime(t)) {
                continue;
            }
            if (!now.strangerCanBring(t)) {
                return NONE;
            }
            needed++;
        }
        return needed;
    }

    /** What the law costs beside none. */
    public int beside() {
        mind.recall();
        int byLaw = mind.sumOfSoonest();
        mind.rule = LAW_NONE;
        return byLaw - mind.sumOfSoonest();
    }

    /** The two persons whose change of houses helps most. */
    public int houses() {
        mind.recall();
        return mind.bestChange();
    }

    /** How many things are in time on drawn days. */
    public int days(int n, int z) {
        if (n < 1) {
            return refuse(BELOW);
        }
        if (n > 14) {
            return refuse(ABOVE);
        }
        mind.recall();
        return mind.inTimeOnDays(n, z);
    }

    /** A person more of the row: how many. */
    public int row(int v) {
        if (v < 0) {
            return refuse(BELOW);
        }
        if (v > 9 || lined >= line.length) {
            return refuse(ABOVE);
        }
        line[lined] = v;
        lined++;
        return lined;
    }

    /** The row is judged, and is no more. */
    public int judge() {
        int bad = firstBadInLine();
        lined = 0;
        return bad;
    }

    /** The image is taken: how many things. */
    public int image() {
        kept.becomeLike(now);
        imaged = true;
        return now.things;
    }

    /** On from the image: how many things. */
    public int on() {
        if (!imaged) {
            return refuse(STATE);
        }
        now.becomeLike(kept);
        return now.things;
    }

    /** How many there are of something. */
    public int count(int what) {
        if (what > 10 && what < 10 + refusals.length) {
            return refusals[what - 10];
        }
        switch (what) {
            case 0: return now.places;
            case 1: return now.persons;
            case 2: return now.things;
            case 3: return now.carriedThings();
            case 4: return lined;
            case 5: return letters.length;
            default: return NONE;
        }
    }

    private int refuse(int number) {
        int kind = -number;
        if (kind >= 0 && kind < refusals.length) {
            refusals[kind]++;
        }
        return number;
    }

    /** Tells on a trial town first, for with a fault nothing of it comes. */
    private int tellStatements() {
        trial.becomeLike(now);
        int told = 0;
        int start = 0;
        while (start < letters.length && told < MOST_LETTERS) {
            int next = letters.read(start);
            if (next < 0 || !trial.hear(letters.kind, letters.number)) {
                return -2000 - start;
            }
            start = next;
            told++;
        }
        trial.measure();
        now.becomeLike(trial);
        return told;
    }

    private int firstBadInLine() {
        int had = 0;
        for (int t = 0; t < now.things && t < lined; t++) {
            int person = line[t];
            if (person == 9) {
                continue;
            }
            if (!now.isPerson(person) || (had >> person & 1) != 0 || now.roundMinute(person, t) == NONE) {
                return t;
            }
            had |= 1 << person;
        }
        return lined == now.things ? NONE : Math.min(lined, now.things);
    }

    /** A person: what is told of him, where he is and his clock. */
    private static final class Person {
        int at;
        int to;
        int from;
        int kin;
        int room;
        int where;
        int clock;

        void becomeLike(Person other) {
            at = other.at;
            to = other.to;
            from = other.from;
            kin = other.kin;
            room = other.room;
            where = other.where;
            clock = other.clock;
        }

        int tellOf(int what) {
            switch (what) {
                case 0: return at;
                case 1: return to;
                case 2: return from;
                case 3: return kin;
                case 4: return room;
                case 5: return where;
                default: return clock;
            }
        }
    }

    /** A thing: what is told of it, where it lies or who carries it. */
    private static final class Thing {
        int owner;
        int second;
        int at;
        int to;
        int size;
        int by;
        int worth;
        int place;
        int since;
        int given;

        void becomeLike(Thing other) {
            owner = other.owner;
            second = other.second;
            at = other.at;
            to = other.to;
            size = other.size;
            by = other.by;
            worth = other.worth;
            place = other.place;
            since = other.since;
            given = other.given;
        }

        boolean isOf(int person) {
            return person == owner || person == second;
        }

        int tellOf(int what) {
            switch (what) {
                case 0: return owner;
                case 1: return second;
                case 2: return at;
                case 3: return to;
                case 4: return size;
                case 5: return by;
                case 6: return worth;
                case 7: return place;
                case 8: return since;
                default: return given;
            }
        }
    }

    /** The letters that have come, and the statements in them. */
    private static final class Letters {
        /** Behind a statement's first letter: a digit stands for a number of so many digits at most. */
        private static final String FORM_N = "1;";
        private static final String FORM_W = "11,2;";
        private static final String FORM_P = "11,3,1,1;";
        private static final String FORM_T = "1111,1,3,2;";

        final int[] sign = new int[MOST_LETTERS];
        final int[] number = new int[7];
        int length;
        int kind;

        boolean add(int c) {
            if (length >= sign.length) {
                return false;
            }
            sign[length] = c;
            length++;
            return true;
        }

        /** The first place with which no town can go on, or -1. */
        int firstBadSign() {
            int place = 0;
            for (int i = 0; i < MOST_LETTERS; i++) {
                int next = read(place);
                if (next < 0) {
                    return -1 - next;
                }
                if (next >= length) {
                    return -1;
                }
                place = next;
            }
            return place;
        }

        /** Reads a statement: the place behind it, or -1 less the place of the first bad sign. */
        int read(int start) {
            kind = signAt(start);
            String form = formOf(kind);
            if (form.isEmpty()) {
                return -1 - start;
            }
            int place = start + 1;
            int numbers = 0;
            for (int i = 0; i < form.length(); i++) {
                char wanted = form.charAt(i);
                int taken = 0;
                if (wanted == ',' || wanted == ';') {
                    taken = signAt(place) == wanted ? 1 : 0;
                } else if (numbers < number.length) {
                    taken = digitsAt(place, wanted - '0');
                    number[numbers] = valueOf(place, taken);
                    numbers++;
                }
                if (taken == 0) {
                    return -1 - place;
                }
                place += taken;
            }
            return place;
        }

        private String formOf(int first) {
            switch (first) {
                case 'n': return FORM_N;
                case 'w': return FORM_W;
                case 'p': return FORM_P;
                case 't': return FORM_T;
                default: return "";
            }
        }

        private int signAt(int place) {
            return place >= 0 && place < length && place < sign.length ? sign[place] : -1;
        }

        private int digitsAt(int place, int most) {
            int digits = 0;
            while (digits < most && signAt(place + digits) >= '0' && signAt(place + digits) <= '9') {
                digits++;
            }
            return digits;
        }

        private int valueOf(int place, int digits) {
            int value = 0;
            for (int i = 0; i < digits; i++) {
                value = 10 * value + signAt(place + i) - '0';
            }
            return value;
        }
    }

    /** All that is told, the law, and how it all is now: what an image keeps. */
    private static final class Town {
        final Person[] people = new Person[MOST_PERSONS];
        final Thing[] goods = new Thing[MOST_THINGS];
        /** Minutes of the way between two places; 0 if there is none. */
        final int[] way = new int[MOST_PLACES * MOST_PLACES];
        final int[] least = new int[MOST_PLACES * MOST_PLACES];
        int places = 4;
        int persons;
        int things;
        int law;

        Town() {
            for (int p = 0; p < MOST_PERSONS; p++) {
                people[p] = new Person();
            }
            for (int t = 0; t < MOST_THINGS; t++) {
                goods[t] = new Thing();
            }
            measure();
        }

        void becomeLike(Town other) {
            for (int p = 0; p < MOST_PERSONS; p++) {
                people[p].becomeLike(other.people[p]);
            }
            for (int t = 0; t < MOST_THINGS; t++) {
                goods[t].becomeLike(other.goods[t]);
            }
            System.arraycopy(other.way, 0, way, 0, way.length);
            System.arraycopy(other.least, 0, least, 0, least.length);
            places = other.places;
            persons = other.persons;
            things = other.things;
            law = other.law;
        }

        boolean isPlace(int place) {
            return place >= 0 && place < places;
        }

        boolean isPerson(int person) {
            return person >= 0 && person < persons;
        }

        boolean isThing(int thing) {
            return thing >= 0 && thing < things;
        }

        /** Hears one statement; false, and nothing changes, if it is not as it must be. */
        boolean hear(int kind, int[] number) {
            switch (kind) {
                case 'n': return hearPlaces(number[0]);
                case 'w': return hearWay(number[0], number[1], number[2]);
                case 'p': return hearPerson(number);
                case 't': return hearThing(number);
                default: return false;
            }
        }

        private boolean hearPlaces(int told) {
            if (told < 2 || told > MOST_PLACES || told <= highestPlace()) {
                return false;
            }
            places = told;
            return true;
        }

        /** The highest place of which something is told or at which something is; -1 if there is none. */
        private int highestPlace() {
            int highest = -1;
            for (int i = 0; i < way.length; i++) {
                if (way[i] > 0) {
                    highest = Math.max(highest, i / MOST_PLACES);
                }
            }
            for (int p = 0; p < persons; p++) {
                Person person = people[p];
                highest = Math.max(highest, Math.max(person.where, Math.max(person.at, person.to)));
            }
            for (int t = 0; t < things; t++) {
                Thing thing = goods[t];
                highest = Math.max(highest, Math.max(thing.at, thing.to));
                if (thing.place < CARRIED) {
                    highest = Math.max(highest, thing.place);
                }
            }
            return highest;
        }

        private boolean hearWay(int one, int other, int needed) {
            if (!isPlace(one) || !isPlace(other) || one == other || needed < 1 || needed > 60) {
                return false;
            }
            way[one * MOST_PLACES + other] = needed;
            way[other * MOST_PLACES + one] = needed;
            return true;
        }

        private boolean hearPerson(int[] number) {
            if (persons >= MOST_PERSONS || !isPlace(number[0]) || !isPlace(number[1]) || number[2] > LAST_FROM) {
                return false;
            }
            Person person = people[persons];
            person.at = number[0];
            person.to = number[1];
            person.from = number[2];
            person.kin = number[3];
            person.room = number[4];
            person.where = person.at;
            person.clock = person.from;
            persons++;
            return true;
        }

        private boolean hearThing(int[] number) {
            if (things >= MOST_THINGS || !isPerson(number[0]) || !isPerson(number[1])
                    || !isPlace(number[2]) || !isPlace(number[3]) || number[4] < 1) {
                return false;
            }
            Thing thing = goods[things];
            thing.owner = number[0];
            thing.second = number[1];
            thing.at = number[2];
            thing.to = number[3];
            thing.size = number[4];
            thing.by = number[5];
            thing.worth = number[6];
            thing.place = thing.at;
            thing.since = 0;
            thing.given = NONE;
            things++;
            return true;
        }

        /** Finds the least minutes anew; needed whenever ways have been told. */
        void measure() {
            for (int i = 0; i < least.length; i++) {
                int same = i / MOST_PLACES == i % MOST_PLACES ? 0 : FAR;
                least[i] = way[i] > 0 ? way[i] : same;
            }
            for (int by = 0; by < MOST_PLACES; by++) {
                for (int i = 0; i < least.length; i++) {
                    int first = least[i / MOST_PLACES * MOST_PLACES + by];
                    int last = least[by * MOST_PLACES + i % MOST_PLACES];
                    least[i] = Math.min(least[i], first + last);
                }
            }
        }

        /** FAR or more, if there is no way. */
        int leastBetween(int from, int to) {
            return isPlace(from) && isPlace(to) ? least[from * MOST_PLACES + to] : FAR;
        }

        int wayBetween(int from, int to) {
            return isPlace(from) && isPlace(to) ? way[from * MOST_PLACES + to] : 0;
        }

        /** Whether a law lets a person carry a thing that was given away at a minute (NONE: never). */
        boolean lawLets(int rule, int person, int thing, int minute, int given) {
            if (rule == LAW_NONE || rule == LAW_NIGHT && minute >= NIGHTFALL) {
                return true;
            }
            Thing load = goods[thing];
            if (person == load.owner || person == load.second) {
                return rule == LAW_HOUR && given >= 0 && minute >= given && minute - given < GIVEN_FOR;
            }
            if (rule != LAW_KIN && rule != LAW_NIGHT) {
                return true;
            }
            int kin = people[person].kin;
            return kin == 0 || kin != people[load.owner].kin && kin != people[load.second].kin;
        }

        boolean fits(int person, int thing) {
            return goods[thing].size <= people[person].room;
        }

        /** By the law and what has been given, as it is now. */
        boolean letsCarry(int person, int thing, int minute) {
            return fits(person, thing) && lawLets(law, person, thing, minute, goods[thing].given);
        }

        int carriedBits(int person) {
            int bits = 0;
            for (int t = 0; t < things; t++) {
                if (goods[t].place == CARRIED + person) {
                    bits |= 1 << t;
                }
            }
            return bits;
        }

        int carriedThings() {
            int sum = 0;
            for (int t = 0; t < things; t++) {
                if (goods[t].place >= CARRIED) {
                    sum++;
                }
            }
            return sum;
        }

        private boolean hasSpareRoom(int person, int thing) {
            int size = goods[thing].size;
            for (int t = 0; t < things; t++) {
                if (goods[t].place == CARRIED + person) {
                    size += goods[t].size;
                }
            }
            return size <= people[person].room;
        }

        private void load(int person, int thing) {
            goods[thing].place = CARRIED + person;
            goods[thing].since = 0;
        }

        boolean takeUp(int person, int thing) {
            Person taker = people[person];
            Thing taken = goods[thing];
            int clock = Math.max(taker.clock, taken.since);
            if (taken.place != taker.where || !letsCarry(person, thing, clock) || !hasSpareRoom(person, thing)) {
                return false;
            }
            taker.clock = clock;
            load(person, thing);
            return true;
        }

        boolean walkTo(int person, int place) {
            Person walker = people[person];
            int needed = leastBetween(walker.where, place);
            if (needed >= FAR) {
                return false;
            }
            for (int t = 0; t < things; t++) {
                if (goods[t].place == CARRIED + person && !letsCarry(person, t, walker.clock)) {
                    return false;
                }
            }
            walker.where = place;
            walker.clock += needed;
            return true;
        }

        boolean layDown(int person, int thing) {
            if (goods[thing].place != CARRIED + person) {
                return false;
            }
            goods[thing].place = people[person].where;
            goods[thing].since = people[person].clock;
            return true;
        }

        boolean handOver(int person, int other, int thing) {
            Person giver = people[person];
            Person taker = people[other];
            int clock = Math.max(giver.clock, taker.clock);
            if (goods[thing].place != CARRIED + person || giver.where != taker.where
                    || !letsCarry(other, thing, clock) || !hasSpareRoom(other, thing)) {
                return false;
            }
            giver.clock = clock;
            taker.clock = clock;
            load(other, thing);
            return true;
        }

        /** The minute at which a person's round, in mind, brings a thing; NONE if there is no such round. */
        int roundMinute(int person, int thing) {
            Person goer = people[person];
            Thing load = goods[thing];
            int toThing = leastBetween(goer.at, load.at);
            int withThing = leastBetween(load.at, load.to);
            if (toThing >= FAR || withThing >= FAR || leastBetween(load.to, goer.to) >= FAR) {
                return NONE;
            }
            int setsOut = goer.from + toThing;
            if (!fits(person, thing) || !lawLets(law, person, thing, setsOut, NONE)) {
                return NONE;
            }
            int minute = setsOut + withThing;
            return minute > load.by ? NONE : minute;
        }

        /** How many minutes more a round is than his way; only of a round that is. */
        int roundMore(int person, int thing) {
            Person goer = people[person];
            Thing load = goods[thing];
            return leastBetween(goer.at, load.at) + leastBetween(load.at, load.to)
                    + leastBetween(load.to, goer.to) - leastBetween(goer.at, goer.to);
        }

        /** Every law lets one who owns nothing and is nobody's kin, so only ways and time count. */
        boolean strangerCanBring(int thing) {
            Thing load = goods[thing];
            return leastBetween(0, load.at) + leastBetween(load.at, load.to) <= load.by;
        }
    }

    /** A person's way: its places, and the minutes at which he is there. */
    private static final class Way {
        final int[] place = new int[MOST_PLACES];
        final int[] minute = new int[MOST_PLACES];
        int length;

        /** No length at all, if his place can not be come to. */
        void lead(Town town, int at, int to, int from) {
            length = 0;
            if (town.leastBetween(at, to) >= FAR) {
                return;
            }
            int here = at;
            int clock = from;
            append(here, clock);
            for (int steps = 1; steps < MOST_PLACES && here != to; steps++) {
                int next = nextToward(town, here, to);
                clock += town.wayBetween(here, next);
                here = next;
                append(here, clock);
            }
        }

        private void append(int here, int clock) {
            if (length < MOST_PLACES) {
                place[length] = here;
                minute[length] = clock;
                length++;
            }
        }

        private int nextToward(Town town, int here, int to) {
            int left = town.leastBetween(here, to);
            for (int next = 0; next < town.places; next++) {
                int step = town.wayBetween(here, next);
                if (step > 0 && step + town.leastBetween(next, to) == left) {
                    return next;
                }
            }
            return to;
        }

        int indexAt(int sought) {
            for (int i = 0; i < length; i++) {
                if (place[i] == sought) {
                    return i;
                }
            }
            return -1;
        }
    }

    /** What could be, all from the beginning. */
    private static final class Mind {
        final Town town;
        final Way[] ways = new Way[MOST_PERSONS];
        /** The soonest minute of the thing last thought of, by places. */
        final int[] soonestAt = new int[MOST_PLACES];
        /** Who carries it, from the end backward. */
        final int[] carrier = new int[MOST_PLACES];
        int traced;
        int rule;
        /** A person whom the law always lets, or NONE. */
        int freed;
        int seed;

        Mind(Town town) {
            this.town = town;
            for (int p = 0; p < MOST_PERSONS; p++) {
                ways[p] = new Way();
            }
        }

        /** Begins anew with what is told and the law as it is. */
        void recall() {
            rule = town.law;
            freed = NONE;
            for (int p = 0; p < town.persons; p++) {
                leadFrom(p, p);
            }
        }

        /** Leads a person from and to the places of another (or his own). */
        private void leadFrom(int person, int house) {
            Person dweller = town.people[house];
            ways[person].lead(town, dweller.at, dweller.to, town.people[person].from);
        }

        private boolean lets(int person, int thing, int minute) {
            return town.fits(person, thing)
                    && (person == freed || town.lawLets(rule, person, thing, minute, NONE));
        }

        int soonestOf(int thing) {
            Thing load = town.goods[thing];
            Arrays.fill(soonestAt, FAR);
            soonestAt[load.at] = 0;
            boolean sooner = true;
            for (int hops = 0; hops <= MOST_PLACES && sooner; hops++) {
                sooner = false;
                for (int p = 0; p < town.persons; p++) {
                    if (carryAlong(p, thing)) {
                        sooner = true;
                    }
                }
            }
            return soonestAt[load.to] >= FAR ? NONE : soonestAt[load.to];
        }

        /** Whether it is somewhere sooner, if this person takes it along his way. */
        private boolean carryAlong(int person, int thing) {
            Way way = ways[person];
            boolean carries = false;
            boolean sooner = false;
            for (int i = 0; i < way.length; i++) {
                int here = way.place[i];
                if (carries && way.minute[i] < soonestAt[here]) {
                    soonestAt[here] = way.minute[i];
                    sooner = true;
                }
                carries = carries || soonestAt[here] <= way.minute[i] && lets(person, thing, way.minute[i]);
            }
            return sooner;
        }

        /** Finds over whom the thing last thought of came, from the end backward. */
        void traceBack(int thing) {
            Thing load = town.goods[thing];
            int here = load.to;
            traced = 0;
            for (int hops = 0; hops < MOST_PLACES && here != load.at; hops++) {
                here = traceStep(thing, here);
            }
        }

        /** Notes the least person by whom it comes here, and answers from where. */
        private int traceStep(int thing, int here) {
            for (int p = 0; p < town.persons; p++) {
                int arrival = ways[p].indexAt(here);
                if (arrival < 0 || ways[p].minute[arrival] != soonestAt[here]) {
                    continue;
                }
                int start = lastStart(p, thing, arrival);
                if (start >= 0 && traced < carrier.length) {
                    carrier[traced] = p;
                    traced++;
                    return ways[p].place[start];
                }
            }
            return town.goods[thing].at;
        }

        /** The last step of his way ahead of another at which he can take it, or -1. */
        private int lastStart(int person, int thing, int arrival) {
            Way way = ways[person];
            for (int i = arrival - 1; i >= 0; i--) {
                if (soonestAt[way.place[i]] <= way.minute[i] && lets(person, thing, way.minute[i])) {
                    return i;
                }
            }
            return -1;
        }

        int carrierAt(int i) {
            return i >= 0 && i < traced ? carrier[traced - 1 - i] : NONE;
        }

        int barredBits(int thing) {
            if (soonestOf(thing) != NONE) {
                return 0;
            }
            int bits = 0;
            for (int p = 0; p < town.persons; p++) {
                freed = p;
                if (soonestOf(thing) != NONE) {
                    bits |= 1 << p;
                }
            }
            freed = NONE;
            return bits;
        }

        boolean somebodyComesBy(int thing, int place) {
            for (int p = 0; p < town.persons; p++) {
                int step = ways[p].indexAt(place);
                if (step >= 0 && lets(p, thing, ways[p].minute[step])) {
                    return true;
                }
            }
            return false;
        }

        boolean isInTime(int thing) {
            int soonest = soonestOf(thing);
            return soonest != NONE && soonest <= town.goods[thing].by;
        }

        int sumOfSoonest() {
            int sum = 0;
            for (int t = 0; t < town.things; t++) {
                int soonest = soonestOf(t);
                sum += soonest == NONE ? MISSED : soonest;
            }
            return sum;
        }

        int bestChange() {
            int least = sumOfSoonest();
            int best = NONE;
            for (int a = 0; a < town.persons; a++) {
                for (int b = a + 1; b < town.persons; b++) {
                    leadFrom(a, b);
                    leadFrom(b, a);
                    int sum = sumOfSoonest();
                    leadFrom(a, a);
                    leadFrom(b, b);
                    if (sum < least) {
                        least = sum;
                        best = 10 * a + b;
                    }
                }
            }
            return best;
        }

        int inTimeOnDays(int n, int z) {
            seed = z;
            int sum = 0;
            for (int day = 0; day < n; day++) {
                for (int p = 0; p < town.persons; p++) {
                    ways[p].lead(town, town.people[p].at, town.people[p].to, drawFrom());
                }
                for (int t = 0; t < town.things; t++) {
                    sum += isInTime(t) ? 1 : 0;
                }
            }
            return sum;
        }

        private int drawFrom() {
            seed = seed * 1664525 + 1013904223;
            return (seed & 0x7fffffff) / 256 % (LAST_FROM + 1);
        }
    }

    /** The best dealing out of one thing at most to each person. */
    private static final class Deal {
        private static final int SETS = 1 << MOST_THINGS;

        final int[] gain = new int[MOST_PERSONS * MOST_THINGS];
        /** By the first person who is still to have one, and the things that are gone. */
        final int[] best = new int[(MOST_PERSONS + 1) * SETS];

        /** The greatest sum, if one person (or NONE) has none. */
        int bestSum(Town town, int without) {
            weigh(town, without);
            Arrays.fill(best, 0);
            for (int p = town.persons - 1; p >= 0; p--) {
                for (int gone = 0; gone < SETS; gone++) {
                    best[p * SETS + gone] = bestFrom(town, p, gone);
                }
            }
            return best[0];
        }

        private void weigh(Town town, int without) {
            Arrays.fill(gain, -FAR);
            for (int p = 0; p < town.persons; p++) {
                for (int t = 0; t < town.things; t++) {
                    if (p != without && town.roundMinute(p, t) != NONE) {
                        gain[p * MOST_THINGS + t] = town.goods[t].worth - town.roundMore(p, t);
                    }
                }
            }
        }

        private int bestFrom(Town town, int person, int gone) {
            int most = best[(person + 1) * SETS + gone];
            for (int t = 0; t < town.things; t++) {
                if ((gone >> t & 1) == 0) {
                    most = Math.max(most, sumWith(person, t, gone));
                }
            }
            return most;
        }

        private int sumWith(int person, int thing, int gone) {
            return gain[person * MOST_THINGS + thing] + best[(person + 1) * SETS + (gone | 1 << thing)];
        }

        /** Whose thing a person has by the first of the best; only behind bestSum. */
        int thingOf(Town town, int person) {
            int gone = 0;
            int has = NONE;
            for (int p = 0; p <= person && p < town.persons; p++) {
                has = firstChoice(town, p, gone);
                if (has != NONE) {
                    gone |= 1 << has;
                }
            }
            return has;
        }

        private int firstChoice(Town town, int person, int gone) {
            int most = best[person * SETS + gone];
            if (best[(person + 1) * SETS + gone] == most) {
                return NONE;
            }
            for (int t = 0; t < town.things; t++) {
                if ((gone >> t & 1) == 0 && sumWith(person, t, gone) == most) {
                    return t;
                }
            }
            return NONE;
        }
    }
}
