import java.util.ArrayList;
import java.util.List;
import java.util.TreeSet;
import java.util.regex.Matcher;
import java.util.regex.Pattern;

/** A slow model of the document, written by other means than the program: it tries all there is. */
final class Model {
    private static final Pattern ONE = Pattern.compile(
            "n(\\d);|w(\\d)(\\d),(\\d\\d?);|p(\\d)(\\d),(\\d{1,3}),(\\d),(\\d);"
            + "|t(\\d)(\\d)(\\d)(\\d),(\\d),(\\d{1,3}),(\\d\\d?);");
    private static final Pattern ALL = Pattern.compile("(?:" + ONE.pattern() + ")+");
    private static final int NO = -9;

    /** A person's and a thing's numbers in the order of the document's what. */
    private static final class Town {
        int places = 4;
        int law = 0;
        int[][] way = new int[7][7];
        List<int[]> persons = new ArrayList<>();
        List<int[]> things = new ArrayList<>();

        Town copy() {
            Town other = new Town();
            other.places = places;
            other.law = law;
            for (int i = 0; i < 7; i++) {
                other.way[i] = way[i].clone();
            }
            persons.forEach(p -> other.persons.add(p.clone()));
            things.forEach(t -> other.things.add(t.clone()));
            return other;
        }
    }

    private Town now = new Town();
    private Town image = null;
    private String text = "";
    private final List<Integer> line = new ArrayList<>();
    private final int[] refused = new int[7];

    private int refuse(int number) {
        refused[-number]++;
        return number;
    }

    private boolean noPlace(int i) {
        return i < 0 || i >= now.places;
    }

    private boolean noPerson(int i) {
        return i < 0 || i >= now.persons.size();
    }

    private boolean noThing(int i) {
        return i < 0 || i >= now.things.size();
    }

    private int clock(int person) {
        return now.persons.get(person)[6];
    }

    int letter(int c) {
        if (c < 0) {
            return refuse(-4);
        }
        if (c > 255 || text.length() == 64) {
            return refuse(-6);
        }
        text += (char) c;
        return text.length();
    }

    int town() {
        String told = text;
        text = "";
        for (int end = 1; end <= told.length(); end++) {
            Matcher matcher = ALL.matcher(told.substring(0, end));
            if (!matcher.matches() && !matcher.hitEnd()) {
                return -1000 - (end - 1);
            }
        }
        if (!ALL.matcher(told).matches()) {
            return -1000 - told.length();
        }
        Town next = now.copy();
        int statements = 0;
        Matcher each = ONE.matcher(told);
        while (each.find()) {
            if (!add(next, each)) {
                return -2000 - each.start();
            }
            statements++;
        }
        now = next;
        return statements;
    }

    private static int number(Matcher m, int group) {
        return Integer.parseInt(m.group(group));
    }

    private static boolean add(Town town, Matcher m) {
        switch (m.group().charAt(0)) {
            case 'n': return addPlaces(town, number(m, 1));
            case 'w': return addWay(town, number(m, 2), number(m, 3), number(m, 4));
            case 'p': return addPerson(town, m);
            default: return addThing(town, m);
        }
    }

    private static boolean addPlaces(Town town, int n) {
        TreeSet<Integer> told = new TreeSet<>();
        told.add(1);
        for (int a = 0; a < 7; a++) {
            for (int b = 0; b < 7; b++) {
                if (town.way[a][b] != 0) {
                    told.add(a);
                }
            }
        }
        for (int[] p : town.persons) {
            told.addAll(List.of(p[0], p[1] == p[0] ? 0 : p[1]));
            told.add(p[5]);
        }
        for (int[] t : town.things) {
            told.add(t[2]);
            told.add(t[3]);
            told.add(t[7] >= 10 ? 0 : t[7]);
        }
        if (n > 7 || n <= told.last()) {
            return false;
        }
        town.places = n;
        return true;
    }

    private static boolean addWay(Town town, int a, int b, int minutes) {
        if (a >= town.places || b >= town.places || a == b || minutes == 0 || minutes > 60) {
            return false;
        }
        town.way[a][b] = minutes;
        town.way[b][a] = minutes;
        return true;
    }

    private static boolean addPerson(Town town, Matcher m) {
        int at = number(m, 5);
        int to = number(m, 6);
        int from = number(m, 7);
        if (at >= town.places || to >= town.places || from > 720 || town.persons.size() == 6) {
            return false;
        }
        town.persons.add(new int[] {at, to, from, number(m, 8), number(m, 9), at, from});
        return true;
    }

    private static boolean addThing(Town town, Matcher m) {
        int one = number(m, 10);
        int two = number(m, 11);
        int at = number(m, 12);
        int to = number(m, 13);
        int size = number(m, 14);
        int persons = town.persons.size();
        if (one >= persons || two >= persons || at >= town.places || to >= town.places || size == 0
                || town.things.size() == 6) {
            return false;
        }
        town.things.add(new int[] {one, two, at, to, size, number(m, 15), number(m, 16), at, 0, NO});
        return true;
    }

    /** The places of the least way, of several the first in order; null if there is none. */
    private List<Integer> path(int from, int to) {
        List<Integer> best = new ArrayList<>();
        List<Integer> begun = new ArrayList<>(List.of(from));
        search(begun, to, best);
        return best.isEmpty() ? null : best;
    }

    private void search(List<Integer> begun, int to, List<Integer> best) {
        int here = begun.get(begun.size() - 1);
        if (here == to) {
            // begun ways come in order, so only a shorter one takes the place
            if (best.isEmpty() || lengthOf(begun) < lengthOf(best)) {
                best.clear();
                best.addAll(begun);
            }
            return;
        }
        for (int next = 0; next < now.places; next++) {
            if (now.way[here][next] != 0 && !begun.contains(next)) {
                begun.add(next);
                search(begun, to, best);
                begun.remove(begun.size() - 1);
            }
        }
    }

    private int lengthOf(List<Integer> path) {
        int sum = 0;
        for (int i = 1; i < path.size(); i++) {
            sum += now.way[path.get(i - 1)][path.get(i)];
        }
        return sum;
    }

    private int least(int from, int to) {
        List<Integer> path = path(from, to);
        return path == null ? NO : lengthOf(path);
    }

    int minutes(int from, int to) {
        return noPlace(from) || noPlace(to) ? refuse(-1) : least(from, to);
    }

    int person(int person, int what) {
        if (noPerson(person)) {
            return refuse(-1);
        }
        if (what < 0 || what > 7) {
            return refuse(-2);
        }
        if (what < 7) {
            return now.persons.get(person)[what];
        }
        int bits = 0;
        for (int t = 0; t < now.things.size(); t++) {
            bits += now.things.get(t)[7] == 10 + person ? 1 << t : 0;
        }
        return bits;
    }

    int thing(int thing, int what) {
        if (noThing(thing)) {
            return refuse(-1);
        }
        return what < 0 || what > 9 ? refuse(-2) : now.things.get(thing)[what];
    }

    int law(int v) {
        if (v < 0 || v > 4) {
            return refuse(-2);
        }
        int was = now.law;
        now.law = v;
        return was;
    }

    private boolean owns(int person, int[] t) {
        return t[0] == person || t[1] == person;
    }

    private boolean ownLaw(int person, int[] t) {
        return !owns(person, t);
    }

    private boolean kinLaw(int person, int[] t) {
        int kin = now.persons.get(person)[3];
        boolean same = false;
        for (int owner = 0; owner < now.persons.size(); owner++) {
            same |= owns(owner, t) && now.persons.get(owner)[3] == kin && kin > 0;
        }
        return ownLaw(person, t) && !same;
    }

    private boolean lets(int law, int person, int[] t, int minute, int given) {
        boolean hour = given != NO && given <= minute && minute <= given + 59;
        boolean[] laws = {ownLaw(person, t), kinLaw(person, t), ownLaw(person, t) || hour, true,
            minute >= 720 || kinLaw(person, t)};
        return laws[law];
    }

    private boolean mayNow(int person, int[] t, int minute) {
        return lets(now.law, person, t, minute, t[9]) && t[4] <= now.persons.get(person)[4];
    }

    int may(int person, int thing, int minute) {
        if (noPerson(person) || noThing(thing)) {
            return refuse(-1);
        }
        if (minute < 0 || minute > 9999) {
            return refuse(minute < 0 ? -4 : -6);
        }
        return mayNow(person, now.things.get(thing), minute) ? 1 : 0;
    }

    private boolean roomFor(int person, int[] more) {
        int left = now.persons.get(person)[4] - more[4];
        for (int[] t : now.things) {
            left -= t[7] == 10 + person ? t[4] : 0;
        }
        return left >= 0;
    }

    int take(int person, int thing) {
        if (noPerson(person) || noThing(thing)) {
            return refuse(-1);
        }
        int[] p = now.persons.get(person);
        int[] t = now.things.get(thing);
        int then = Math.max(p[6], t[8]);
        if (t[7] != p[5] || !mayNow(person, t, then) || !roomFor(person, t)) {
            return refuse(-3);
        }
        t[7] = 10 + person;
        t[8] = 0;
        p[6] = then;
        return then;
    }

    int go(int person, int place) {
        if (noPerson(person) || noPlace(place)) {
            return refuse(-1);
        }
        int[] p = now.persons.get(person);
        int needed = least(p[5], place);
        boolean barred = needed == NO;
        for (int[] t : now.things) {
            barred |= t[7] == 10 + person && !mayNow(person, t, p[6]);
        }
        if (barred) {
            return refuse(-3);
        }
        p[5] = place;
        p[6] += needed;
        return p[6];
    }

    int lay(int person, int thing) {
        if (noPerson(person) || noThing(thing)) {
            return refuse(-1);
        }
        int[] t = now.things.get(thing);
        if (t[7] != 10 + person) {
            return refuse(-3);
        }
        t[7] = now.persons.get(person)[5];
        t[8] = clock(person);
        return clock(person);
    }

    int hand(int person, int other, int thing) {
        if (noPerson(person) || noPerson(other) || noThing(thing) || person == other) {
            return refuse(-1);
        }
        int[] p = now.persons.get(person);
        int[] o = now.persons.get(other);
        int[] t = now.things.get(thing);
        int then = Math.max(p[6], o[6]);
        if (t[7] != 10 + person || p[5] != o[5] || !mayNow(other, t, then) || !roomFor(other, t)) {
            return refuse(-3);
        }
        t[7] = 10 + other;
        p[6] = then;
        o[6] = then;
        return then;
    }

    int tarry(int person, int m) {
        if (noPerson(person)) {
            return refuse(-1);
        }
        if (m < 1 || m > 600) {
            return refuse(m < 1 ? -4 : -6);
        }
        now.persons.get(person)[6] += m;
        return clock(person);
    }

    int give(int person, int thing) {
        if (noPerson(person) || noThing(thing)) {
            return refuse(-1);
        }
        if (!owns(person, now.things.get(thing))) {
            return refuse(-3);
        }
        now.things.get(thing)[9] = clock(person);
        return clock(person);
    }

    int there() {
        return (int) now.things.stream().filter(t -> t[7] == t[3] && t[8] <= t[5]).count();
    }

    /** All ways from told places at some FROMs: for each person rows of place and minute. */
    private List<List<int[]>> ways(List<int[]> persons) {
        List<List<int[]>> ways = new ArrayList<>();
        for (int[] p : persons) {
            List<int[]> way = new ArrayList<>();
            List<Integer> path = path(p[0], p[1]);
            for (int i = 0; path != null && i < path.size(); i++) {
                way.add(new int[] {path.get(i), p[2] + lengthOf(path.subList(0, i + 1))});
            }
            ways.add(way);
        }
        return ways;
    }

    private boolean mayInMind(int law, int freed, int person, int[] t, int minute) {
        return t[4] <= now.persons.get(person)[4] && (person == freed || lets(law, person, t, minute, NO));
    }

    /** Every place and minute at which it can be, by trying all who could take it. */
    private void spread(List<List<int[]>> ways, int[] t, int law, int freed, TreeSet<Integer> seen, int state) {
        if (!seen.add(state)) {
            return;
        }
        int place = state / 10000;
        int minute = state % 10000;
        for (int p = 0; p < ways.size(); p++) {
            List<int[]> way = ways.get(p);
            for (int i = 0; i < way.size(); i++) {
                int[] step = way.get(i);
                if (step[0] == place && step[1] >= minute && mayInMind(law, freed, p, t, step[1])) {
                    for (int[] later : way.subList(i + 1, way.size())) {
                        spread(ways, t, law, freed, seen, later[0] * 10000 + later[1]);
                    }
                }
            }
        }
    }

    private int[] soonestByPlace(List<List<int[]>> ways, int[] t, int law, int freed) {
        TreeSet<Integer> seen = new TreeSet<>();
        spread(ways, t, law, freed, seen, t[2] * 10000);
        int[] soonest = new int[7];
        for (int place = 0; place < 7; place++) {
            Integer first = seen.ceiling(place * 10000);
            soonest[place] = first != null && first / 10000 == place ? first % 10000 : NO;
        }
        return soonest;
    }

    private int soonestOf(List<int[]> persons, int[] t, int law, int freed) {
        return soonestByPlace(ways(persons), t, law, freed)[t[3]];
    }

    int soonest(int thing) {
        return noThing(thing) ? refuse(-1) : soonestOf(now.persons, now.things.get(thing), now.law, -1);
    }

    int over(int thing, int i) {
        if (noThing(thing)) {
            return refuse(-1);
        }
        if (i < -1) {
            return refuse(-4);
        }
        int[] t = now.things.get(thing);
        List<List<int[]>> ways = ways(now.persons);
        int[] soonest = soonestByPlace(ways, t, now.law, -1);
        if (soonest[t[3]] == NO) {
            return NO;
        }
        List<Integer> chain = new ArrayList<>();
        int place = t[3];
        while (place != t[2]) {
            int[] found = carrierTo(ways, t, soonest, place);
            chain.add(0, found[0]);
            place = found[1];
        }
        if (i == -1) {
            return chain.size();
        }
        return i < chain.size() ? chain.get(i) : NO;
    }

    private int[] carrierTo(List<List<int[]>> ways, int[] t, int[] soonest, int place) {
        for (int p = 0; p < ways.size(); p++) {
            int[] found = null;
            List<int[]> way = ways.get(p);
            for (int end = 0; end < way.size(); end++) {
                if (way.get(end)[0] != place || way.get(end)[1] != soonest[place]) {
                    continue;
                }
                for (int[] step : way.subList(0, end)) {
                    if (soonest[step[0]] != NO && soonest[step[0]] <= step[1]
                            && mayInMind(now.law, -1, p, t, step[1])) {
                        found = new int[] {p, step[0]};
                    }
                }
            }
            if (found != null) {
                return found;
            }
        }
        throw new IllegalStateException("nobody brought it");
    }

    int bars(int thing) {
        if (noThing(thing)) {
            return refuse(-1);
        }
        int[] t = now.things.get(thing);
        int bits = 0;
        for (int p = 0; p < now.persons.size(); p++) {
            if (soonestOf(now.persons, t, now.law, -1) == NO && soonestOf(now.persons, t, now.law, p) != NO) {
                bits += 1 << p;
            }
        }
        return bits;
    }

    int never() {
        int bits = 0;
        for (int t = 0; t < now.things.size(); t++) {
            bits += soonest(t) == NO ? 1 << t : 0;
        }
        return bits;
    }

    int why(int thing) {
        if (noThing(thing)) {
            return refuse(-1);
        }
        if (soonest(thing) != NO) {
            return 0;
        }
        int[] t = now.things.get(thing);
        boolean byAt = false;
        boolean byTo = false;
        List<List<int[]>> ways = ways(now.persons);
        for (int p = 0; p < ways.size(); p++) {
            for (int[] step : ways.get(p)) {
                boolean may = mayInMind(now.law, -1, p, t, step[1]);
                byAt |= may && step[0] == t[2];
                byTo |= may && step[0] == t[3];
            }
        }
        return !byAt ? 1 : !byTo ? 2 : 4;
    }

    /** The minute and MORE, or null. */
    private int[] roundOf(int person, int thing) {
        int[] p = now.persons.get(person);
        int[] t = now.things.get(thing);
        int first = least(p[0], t[2]);
        int second = least(t[2], t[3]);
        int third = least(t[3], p[1]);
        if (first == NO || second == NO || third == NO) {
            return null;
        }
        if (!mayInMind(now.law, -1, person, t, p[2] + first) || p[2] + first + second > t[5]) {
            return null;
        }
        return new int[] {p[2] + first + second, first + second + third - least(p[0], p[1])};
    }

    int round(int person, int thing, int what) {
        if (noPerson(person) || noThing(thing)) {
            return refuse(-1);
        }
        if (what != 0 && what != 1) {
            return refuse(-2);
        }
        int[] round = roundOf(person, thing);
        return round == null ? NO : round[what];
    }

    /** Tries all dealings in order: the sum first, then each person's thing. */
    private int[] bestDeal(int without) {
        int persons = now.persons.size();
        int[] best = new int[1 + persons];
        java.util.Arrays.fill(best, NO);
        best[0] = -1;
        int[][] gain = new int[persons][now.things.size()];
        for (int p = 0; p < persons; p++) {
            for (int t = 0; t < now.things.size(); t++) {
                int[] round = p == without ? null : roundOf(p, t);
                gain[p][t] = round == null ? Integer.MIN_VALUE : now.things.get(t)[6] - round[1];
            }
        }
        dealOn(gain, new int[persons], 0, 0, best);
        return best;
    }

    private void dealOn(int[][] gain, int[] has, int person, int sum, int[] best) {
        if (person == has.length) {
            if (sum > best[0]) {
                best[0] = sum;
                System.arraycopy(has, 0, best, 1, has.length);
            }
            return;
        }
        has[person] = NO;
        dealOn(gain, has, person + 1, sum, best);
        for (int t = 0; t < gain[person].length; t++) {
            boolean free = gain[person][t] != Integer.MIN_VALUE;
            for (int p = 0; p < person; p++) {
                free &= has[p] != t;
            }
            if (free) {
                has[person] = t;
                dealOn(gain, has, person + 1, sum + gain[person][t], best);
            }
        }
    }

    int each(int person) {
        return person != -1 && noPerson(person) ? refuse(-1) : bestDeal(-1)[person + 1];
    }

    int pay(int person) {
        return noPerson(person) ? refuse(-1) : bestDeal(-1)[0] - bestDeal(person)[0];
    }

    int fewest() {
        int needed = 0;
        for (int[] t : now.things) {
            int soonest = soonestOf(now.persons, t, now.law, -1);
            if (soonest == NO || soonest > t[5]) {
                int first = least(0, t[2]);
                int second = least(t[2], t[3]);
                if (first == NO || second == NO || first + second > t[5]) {
                    return NO;
                }
                needed++;
            }
        }
        return needed;
    }

    private int sum(List<int[]> persons, int law) {
        int sum = 0;
        for (int[] t : now.things) {
            int soonest = soonestOf(persons, t, law, -1);
            sum += soonest == NO ? 999 : soonest;
        }
        return sum;
    }

    int beside() {
        return sum(now.persons, now.law) - sum(now.persons, 3);
    }

    int houses() {
        int least = sum(now.persons, now.law);
        int answer = NO;
        for (int a = 0; a < now.persons.size(); a++) {
            for (int b = a + 1; b < now.persons.size(); b++) {
                List<int[]> changed = now.copy().persons;
                for (int i = 0; i < 2; i++) {
                    changed.get(a)[i] = now.persons.get(b)[i];
                    changed.get(b)[i] = now.persons.get(a)[i];
                }
                int sum = sum(changed, now.law);
                if (sum < least) {
                    least = sum;
                    answer = 10 * a + b;
                }
            }
        }
        return answer;
    }

    int days(int n, int z) {
        if (n < 1 || n > 14) {
            return refuse(n < 1 ? -4 : -6);
        }
        int inTime = 0;
        int seed = z;
        for (int day = 0; day < n; day++) {
            List<int[]> persons = now.copy().persons;
            for (int[] p : persons) {
                seed = (int) (seed * 1664525L + 1013904223L);
                p[2] = (int) (((seed & 0xffffffffL) % 0x80000000L) / 256 % 721);
            }
            for (int[] t : now.things) {
                int soonest = soonestOf(persons, t, now.law, -1);
                inTime += soonest != NO && soonest <= t[5] ? 1 : 0;
            }
        }
        return inTime;
    }

    int row(int v) {
        if (v < 0) {
            return refuse(-4);
        }
        if (v > 9 || line.size() == 6) {
            return refuse(-6);
        }
        line.add(v);
        return line.size();
    }

    int judge() {
        List<Integer> told = new ArrayList<>(line);
        line.clear();
        for (int t = 0; t < told.size() && t < now.things.size(); t++) {
            int person = told.get(t);
            if (person != 9 && (noPerson(person) || told.indexOf(person) < t || roundOf(person, t) == null)) {
                return t;
            }
        }
        if (told.size() < now.things.size()) {
            return told.size();
        }
        return told.size() > now.things.size() ? now.things.size() : NO;
    }

    int image() {
        image = now.copy();
        return now.things.size();
    }

    int on() {
        if (image == null) {
            return refuse(-3);
        }
        now = image.copy();
        return now.things.size();
    }

    int count(int what) {
        if (what >= 11 && what <= 16) {
            return refused[what - 10];
        }
        switch (what) {
            case 0: return now.places;
            case 1: return now.persons.size();
            case 2: return now.things.size();
            case 3: return (int) now.things.stream().filter(t -> t[7] >= 10).count();
            case 4: return line.size();
            case 5: return text.length();
            default: return NO;
        }
    }
}
