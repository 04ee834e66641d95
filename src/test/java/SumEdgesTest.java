/** Terms, the sums over all things, and promises 25 to 27: every edge that they name. */
final class SumEdgesTest {
    private static final String LONG_CHAIN = "n7;w01,60;w12,60;w23,60;w34,60;w45,60;w56,60;";

    public static void main(String[] args) {
        besideNone();
        besideMissed();
        besideFull();
        housesLessThanNow();
        housesLeast();
        housesFirst();
        housesBothPlaces();
        housesOfMissed();
        housesNone();
        daysHowMany();
        drawEdges();
        drawWraps();
        drawsByNumbers();
        drawsGoOn();
        daysByBy();
        daysLeaveAll();
        Due.end();
    }

    private static void besideNone() {
        Due.sentence("Terms", "BESIDE: sum of SOONEST of all THINGS (999 for one that can not be) by the law, less that by NONE.");
        NobodyCarries x = Due.town("w01,10;p01,0,1,9;p01,30,1,9;p01,50,0,9;t0001,1,1,9;t0000,1,1,9;");
        int[] due = {30, 50, 30, 0, 50};
        for (int law = 0; law < due.length; law++) {
            x.law(law);
            Due.is("beside() by law " + law, x.beside(), due[law]);
        }
        Due.is("the law stays", x.law(0), 4);
        Due.sentence("Promise 25", "BESIDE.");
        NobodyCarries two = Due.town("w01,10;p01,0,0,9;p01,7,0,9;t0001,1,1,9;t0101,1,1,9;");
        Due.is("17 and 999, less 10 and 10", two.beside(), 996);
        Due.is("of nothing", new NobodyCarries().beside(), 0);
    }

    private static void besideMissed() {
        Due.sentence("Terms", "(999 for one that can not be)");
        NobodyCarries x = Due.town("w01,10;p01,0,0,9;t0001,1,1,9;t0010,1,1,9;");
        Due.is("999 and 999, less 10 and 999", x.beside(), 989);
        NobodyCarries late = Due.town(LONG_CHAIN, "p06,720,0,9;t0006,1,1,9;");
        Due.is("999, less 1080", late.beside(), -81);
        Due.is("law(3)", late.law(3), 0);
        Due.is("1080, less 1080", late.beside(), 0);
    }

    private static void besideFull() {
        Due.sentence("Terms", "of all THINGS");
        NobodyCarries x = Due.town("w01,1;p01,0,0,9;", "t0001,1,1,9;".repeat(6));
        Due.is("six times 998", x.beside(), 6 * 998);
    }

    private static void housesLessThanNow() {
        Due.sentence("Terms", "would make that sum least, less than now,");
        NobodyCarries same = Due.town("w01,10;p01,0,0,9;p11,0,0,9;p33,0,0,0;t2201,1,99,9;");
        Due.is("a change that is as good", same.houses(), -9);
        NobodyCarries less = Due.town("w01,10;p01,1,0,9;p11,0,0,9;p33,0,0,0;t2201,1,99,9;");
        Due.is("a change a minute better", less.houses(), 1);
    }

    private static void housesLeast() {
        Due.sentence("Terms", "HOUSES: the two PERSONS who, if they changed about AT and TO, would make that sum least");
        NobodyCarries x = Due.town("w01,10;p01,9,0,9;p11,5,0,9;p11,3,0,9;p11,4,0,9;p33,0,0,0;t4401,1,99,9;");
        Due.is("0 and 2", x.houses(), 2);
    }

    private static void housesFirst() {
        Due.sentence("Terms", "of several the first (10 times the lesser and the other);");
        NobodyCarries x = Due.town("w01,10;p01,9,0,9;p11,5,0,9;p11,3,0,9;p11,3,0,9;p33,0,0,0;t4401,1,99,9;");
        Due.is("0 and 2, not 0 and 3", x.houses(), 2);
        NobodyCarries last = Due.town("w01,10;p33,9,0,9;p33,9,0,9;p33,9,0,9;p33,9,0,9;p01,9,0,9;p33,0,0,9;", "t0001,1,99,9;");
        Due.is("4 and 5", last.houses(), 45);
        NobodyCarries either = Due.town("w01,10;p33,9,0,0;p11,3,0,9;p11,3,0,9;p01,9,0,9;t0001,1,99,9;");
        Due.is("1 and 3, not 2 and 3", either.houses(), 13);
        NobodyCarries others = Due.town("w01,10;w23,10;p01,0,0,9;p23,300,0,9;p33,0,0,9;p00,0,0,0;t3301,1,99,9;t3323,1,99,9;");
        Due.is("1 and 2, while 0 goes his own way", others.houses(), 12);
        NobodyCarries between = Due.town("w01,10;w23,10;p23,300,0,9;p01,0,0,9;p33,0,0,9;p00,0,0,0;t3301,1,99,9;t3323,1,99,9;");
        Due.is("0 and 2, while 1 goes his own way", between.houses(), 2);
    }

    /** FROM, KIN and ROOM stay with the person. */
    private static void housesBothPlaces() {
        Due.sentence("Terms", "if they changed about AT and TO");
        NobodyCarries at = Due.town("w01,10;p00,0,0,9;p11,0,0,9;p33,0,0,0;t2201,1,99,9;");
        Due.is("AT alone would do, both do not", at.houses(), -9);
        NobodyCarries room = Due.town("w01,10;p01,0,0,0;p33,5,0,9;p22,0,0,9;p22,0,0,0;t2201,1,99,9;");
        Due.is("0 has no room, 2 owns it", room.houses(), 1);
        NobodyCarries from = Due.town("w01,10;p01,700,0,9;p33,5,0,9;t0001,1,99,9;");
        Due.is("1 goes at his FROM", from.houses(), 1);
        Due.is("told AT stays", from.person(0, 0), 0);
        Due.is("told TO stays", from.person(1, 1), 3);
        Due.is("soonest(0) stays", from.soonest(0), -9);
    }

    private static void housesOfMissed() {
        Due.sentence("Terms", "that sum");
        NobodyCarries x = Due.town(LONG_CHAIN, "p06,720,0,9;p66,0,0,9;t1106,1,999,9;");
        Due.is("1080 now, 999 if it can not be", x.houses(), 1);
        NobodyCarries y = Due.town(LONG_CHAIN, "p06,0,0,9;p66,720,0,9;t0006,1,999,9;");
        Due.is("999 now, 1080 if it can be", y.houses(), -9);
        NobodyCarries z = Due.town(LONG_CHAIN, "p06,0,0,9;p66,638,0,9;t0006,1,999,9;");
        Due.is("999 now, 998 then", z.houses(), 1);
        NobodyCarries w = Due.town(LONG_CHAIN, "p06,0,0,9;p66,639,0,9;t0006,1,999,9;");
        Due.is("999 now, 999 then", w.houses(), -9);
    }

    private static void housesNone() {
        Due.sentence("Terms", "(10 times the lesser and the other); -9.");
        NobodyCarries best = Due.town("w01,10;p01,0,0,9;p01,5,0,9;p33,0,0,0;t2201,1,99,9;");
        Due.is("it is least as it is", best.houses(), -9);
        Due.sentence("Promise 26", "HOUSES; -9.");
        NobodyCarries x = new NobodyCarries();
        Due.is("nobody", x.houses(), -9);
        Due.is("a person", Due.tell(x, "w01,10;p11,0,0,9;t0001,1,1,1;"), 3);
        Due.is("one", x.houses(), -9);
        Due.is("-9 is no refusal", x.count(11) + x.count(13), 0);
        x.law(3);
        Due.is("another person", Due.tell(x, "p01,0,0,0;"), 1);
        Due.is("two", x.houses(), 1);
    }

    /** Another way to the draws than by an int that wraps. */
    private static long next(long z) {
        return (z * 1664525L + 1013904223L) & 0xffffffffL;
    }

    private static int drawOf(long z) {
        return (int) ((z & 0x7fffffffL) / 256 % 721);
    }

    private static NobodyCarries oneThing(int by) {
        return Due.town("w01,1;p01,0,0,9;p33,0,0,0;t1101,1," + by + ",9;");
    }

    private static void daysHowMany() {
        Due.sentence("Terms", "DAYS: n of them (1 .. 14) with a seed z:");
        NobodyCarries x = oneThing(999);
        for (int n = 1; n <= 14; n++) {
            Due.is("days(" + n + ", 1), in time on each", x.days(n, 1), n);
        }
        NobodyCarries six = Due.town("w01,1;p01,0,0,9;p33,0,0,0;", "t1101,1,999,9;".repeat(6));
        Due.is("six on fourteen", six.days(14, 1), 84);
        Due.is("of nothing", new NobodyCarries().days(14, 1), 0);
    }

    private static void drawIs(int z, int draw) {
        Due.is("days(1, " + z + ") by " + (draw + 1), oneThing(draw + 1).days(1, z), 1);
        Due.is("days(1, " + z + ") by " + draw, oneThing(draw).days(1, z), 0);
    }

    private static void drawEdges() {
        Due.sentence("Terms", "on each FROM of each PERSON is a DRAW below 721");
        int[] sought = {0, 1, 719, 720};
        for (int draw : sought) {
            int z = 0;
            while (drawOf(next(z)) != draw) {
                z++;
            }
            drawIs(z, draw);
        }
    }

    private static void drawWraps() {
        Due.sentence("Terms", "A DRAW below m: z becomes z times 1664525 and 1013904223 (an int); (z without its sign's bit by 256, cut) modulo m.");
        int[] seeds = {0, 1, -1, 2, -2, 255, 256, 1290, 1291, 65536, -65536, 123456789, -123456789,
            Integer.MAX_VALUE, Integer.MIN_VALUE, Integer.MAX_VALUE - 1, Integer.MIN_VALUE + 1};
        int negative = 0;
        for (int z : seeds) {
            long then = next(z);
            negative += then > Integer.MAX_VALUE ? 1 : 0;
            drawIs(z, drawOf(then));
        }
        Due.is("some become negative, some not", negative > 2 && negative < seeds.length - 2 ? 1 : 0, 1);
    }

    /** Each of three brings one thing, in time on that day to the minute; with any other draw one is not. */
    private static void drawsByNumbers() {
        Due.sentence("Terms", "(by numbers)");
        for (int z = 1; z <= 20; z++) {
            long first = next(z);
            long second = next(first);
            long third = next(second);
            String town = "w01,1;p01,0,0,9;p33,0,0,9;p12,0,0,9;w12,1;p33,0,0,0;";
            String things = "t3301,1," + (drawOf(first) + 1) + ",9;t3312,1," + (drawOf(third) + 1) + ",9;";
            String late = "t3301,1," + drawOf(first) + ",9;t3312,1," + drawOf(third) + ",9;";
            Due.is("both in time", Due.town(town, things).days(1, z), 2);
            Due.is("both a minute late", Due.town(town, late).days(1, z), 0);
            NobodyCarries lost = Due.town("w01,1;p03,0,0,9;p01,0,0,9;p22,0,0,0;t2201,1," + (drawOf(second) + 1) + ",9;");
            Due.is("one without a way draws, too", lost.days(1, z), 1);
        }
    }

    private static void drawsGoOn() {
        Due.sentence("Terms", "how many THINGS are SOONEST by BY, on all together.");
        int[] seeds = {3, -3, 77777, Integer.MIN_VALUE};
        for (int z : seeds) {
            NobodyCarries x = Due.town("w01,10;p01,0,0,9;p01,0,0,9;t0001,1,300,9;t1101,1,500,9;t0000,1,0,9;t0010,1,999,9;");
            long seed = z;
            int due = 0;
            for (int day = 1; day <= 14; day++) {
                seed = next(seed);
                int zero = drawOf(seed);
                seed = next(seed);
                int one = drawOf(seed);
                due += (one + 10 <= 300 ? 1 : 0) + (zero + 10 <= 500 ? 1 : 0) + 1;
                Due.is("days(" + day + ", " + z + ")", x.days(day, z), due);
            }
        }
    }

    private static void daysByBy() {
        Due.sentence("Promise 27", "DAYS.");
        NobodyCarries night = Due.town("w01,1;p01,0,0,9;t0001,1,999,9;");
        night.law(4);
        int z = 0;
        while (drawOf(next(z)) != 720) {
            z++;
        }
        Due.is("an owner by night", night.days(1, z), 1);
        z = 0;
        while (drawOf(next(z)) != 719) {
            z++;
        }
        Due.is("an owner a minute ahead of night", night.days(1, z), 0);
    }

    private static void daysLeaveAll() {
        Due.sentence("Terms", "on each FROM of each PERSON is a DRAW");
        NobodyCarries x = Due.town("w01,1;p01,7,0,9;p33,0,0,0;t1101,1,999,9;");
        int first = x.days(14, 99);
        Due.is("the same again", x.days(14, 99), first);
        Due.is("FROM stays", x.person(0, 2), 7);
        Due.is("CLOCK stays", x.person(0, 6), 7);
        Due.is("soonest(0) stays", x.soonest(0), 8);
        Due.is("round(0, 0, 0) stays", x.round(0, 0, 0), 8);
    }
}
