/** Promises 16 to 20 and 25 to 27: the soonest, over whom, what bars it, sums of it. */
final class MindTest {
    public static void main(String[] args) {
        soonestAndOver();
        leastNextPlace();
        allFromTheBeginning();
        nightOnTheWay();
        wrongInputs();
        bars();
        why();
        beside();
        houses();
        days();
        Due.end();
    }

    /** Person 0 goes 0 1 2, person 1 goes 2 3 a little later, person 2 the whole way late. */
    private static void soonestAndOver() {
        NobodyCarries x = Due.town("w01,10;w12,10;w23,10;p02,0,0,9;p23,20,0,9;p03,50,0,9;", "t2203,1,99,9;t0003,1,99,9;t1103,1,99,9;");
        Due.is("soonest(0)", x.soonest(0), 30);
        int[] due = {3, 0, 0, 1, -9};
        for (int i = -1; i < 4; i++) {
            Due.is("over(0, " + i + ")", x.over(0, i), due[i + 1]);
        }
        Due.is("soonest(1)", x.soonest(1), 80);
        Due.is("over(1, -1)", x.over(1, -1), 3);
        Due.is("over(1, 0)", x.over(1, 0), 2);
        Due.is("person 0 brings it, but 1 may not", x.soonest(2), 80);
        Due.is("never()", x.never(), 0);
        NobodyCarries missed = Due.town("w01,10;w12,10;p01,1,0,9;p12,10,0,9;p00,0,0,0;t2202,1,99,9;t2212,1,99,9;");
        Due.is("a minute too late to be handed", missed.soonest(0), -9);
        Due.is("over(0, -1)", missed.over(0, -1), -9);
        Due.is("over(0, 0)", missed.over(0, 0), -9);
        Due.is("soonest(1)", missed.soonest(1), 20);
        Due.is("never()", missed.never(), 1);
        NobodyCarries two = Due.town("w01,10;w12,10;p22,0,0,0;p02,5,0,9;p02,5,0,9;p01,0,0,9;t0002,1,99,9;");
        Due.is("soonest(0)", two.soonest(0), 25);
        Due.is("the least person by whom", two.over(0, 1), 1);
        Due.is("from the last place, where it was sooner", two.over(0, 0), 3);
    }

    private static void leastNextPlace() {
        NobodyCarries x = Due.town("w02,5;w23,5;w01,4;w13,6;p03,0,0,9;p33,0,0,0;", "t1102,1,9,9;t1101,1,9,9;");
        Due.is("by place 1, not by 2", x.soonest(0), -9);
        Due.is("by place 1", x.soonest(1), 4);
        Due.is("told again", Due.tell(x, "w13,7;"), 1);
        Due.is("by place 2 then", x.soonest(0), 5);
        Due.is("not by place 1", x.soonest(1), -9);
    }

    private static void allFromTheBeginning() {
        NobodyCarries x = Due.town("w01,10;p01,0,0,9;p11,0,0,9;t1101,1,99,9;t0001,1,99,9;");
        Due.is("soonest(1)", x.soonest(1), -9);
        Due.is("take(0, 0)", x.take(0, 0), 0);
        Due.is("go(0, 1)", x.go(0, 1), 10);
        Due.is("tarry(0, 100)", x.tarry(0, 100), 110);
        Due.is("soonest(0) as if not gone yet", x.soonest(0), 10);
        Due.is("law(2)", x.law(2), 0);
        Due.is("give(0, 1)", x.give(0, 1), 110);
        Due.is("nothing is given in mind", x.soonest(1), -9);
        Due.is("round(0, 1, 0)", x.round(0, 1, 0), -9);
        Due.is("law(3)", x.law(3), 2);
        Due.is("soonest(1) by none", x.soonest(1), 10);
    }

    private static void nightOnTheWay() {
        NobodyCarries x = Due.town("w01,60;w12,60;p02,660,0,9;t0012,1,999,9;t0002,1,999,9;");
        Due.is("law(4)", x.law(4), 0);
        Due.is("it is night when he is at 1", x.soonest(0), 780);
        Due.is("it is not when he is at 0", x.soonest(1), -9);
        Due.is("why(1)", x.why(1), 1);
        Due.is("law(0)", x.law(0), 4);
        Due.is("soonest(0) by OWN", x.soonest(0), -9);
    }

    private static void wrongInputs() {
        NobodyCarries x = Due.town("p00,0,0,9;t0000,1,0,9;");
        Due.is("there from the first", x.soonest(0), 0);
        Due.is("over(0, -1)", x.over(0, -1), 0);
        Due.is("over(0, 0)", x.over(0, 0), -9);
        Due.is("over(0, -2)", x.over(0, -2), -4);
        Due.is("over(1, -2)", x.over(1, -2), -1);
        Due.is("over(-1, 0)", x.over(-1, 0), -1);
        Due.is("soonest(1)", x.soonest(1), -1);
        Due.is("soonest(-1)", x.soonest(-1), -1);
        Due.is("bars(1)", x.bars(1), -1);
        Due.is("bars(-1)", x.bars(-1), -1);
        Due.is("why(1)", x.why(1), -1);
        Due.is("why(-1)", x.why(-1), -1);
        Due.is("bars(0)", x.bars(0), 0);
        Due.is("why(0)", x.why(0), 0);
        Due.is("refusals -1", x.count(11), 8);
        Due.is("refusals -4", x.count(14), 1);
    }

    private static void bars() {
        NobodyCarries x = Due.town("w01,10;p01,0,0,9;p01,0,0,1;p10,0,0,9;p01,9,0,2;t0301,2,99,9;t0101,1,9,9;");
        Due.is("0 and 3 alone; 1 has no room, 2 goes elsewhere", x.bars(0), 9);
        Due.is("it can be", x.bars(1), 0);
        Due.is("why(1)", x.why(1), 0);
        NobodyCarries chain = Due.town("w01,10;w12,10;p01,0,0,9;p12,10,0,9;t0102,1,99,9;t0002,1,99,9;");
        Due.is("neither of two alone", chain.bars(0), 0);
        Due.is("never()", chain.never(), 3);
        Due.is("one of two", chain.bars(1), 1);
    }

    private static void why() {
        NobodyCarries x = Due.town("n5;w01,5;w12,5;p12,0,0,9;p22,0,0,0;", "t1102,1,9,9;t1110,1,9,9;t1121,1,9,9;t1134,1,9,9;");
        Due.is("nobody by its AT", x.why(0), 1);
        Due.is("nobody to its TO", x.why(1), 2);
        Due.is("he goes the other way", x.why(2), 4);
        Due.is("neither", x.why(3), 1);
        Due.is("never()", x.never(), 15);
        NobodyCarries lost = Due.town("n5;w01,5;p04,0,0,9;p00,0,0,9;t1101,1,9,9;t0001,1,9,9;");
        Due.is("one who has no way does not come by", lost.why(0), 1);
        Due.is("one who stays is there", lost.why(1), 2);
    }

    private static void beside() {
        NobodyCarries x = Due.town("w01,10;p01,0,0,9;p01,50,0,9;t0001,1,99,9;t0101,1,9,9;t1110,1,9,9;");
        Due.is("60 and 999 and 999, less 10 and 10 and 999", x.beside(), 1039);
        Due.is("law(3)", x.law(3), 0);
        Due.is("beside() by none", x.beside(), 0);
        Due.is("beside() changes no law", x.law(0), 3);
        Due.is("of nothing", new NobodyCarries().beside(), 0);
        NobodyCarries small = Due.town("w01,10;p01,0,0,1;t0001,2,99,9;");
        Due.is("room counts by none too", small.beside(), 0);
    }

    private static void houses() {
        NobodyCarries x = Due.town("w01,10;p00,0,0,9;p11,0,0,9;p01,30,0,9;t2201,1,99,9;");
        Due.is("0 goes with 2's houses", x.houses(), 2);
        NobodyCarries y = Due.town("w01,10;p01,0,0,9;p11,9,0,9;p11,5,0,9;t0001,1,99,9;");
        Due.is("the least sum, not the first that is less", y.houses(), 2);
        NobodyCarries z = Due.town("w01,10;p01,0,0,9;p11,5,0,9;p11,5,0,9;t0001,1,99,9;");
        Due.is("of several the first", z.houses(), 1);
        NobodyCarries w = Due.town("w01,10;p00,9,0,9;p01,0,0,9;p11,5,0,9;t1101,1,99,9;");
        Due.is("10 times the lesser", w.houses(), 12);
        NobodyCarries none = Due.town("w01,10;p01,0,0,9;p01,0,0,9;t0001,1,99,9;");
        Due.is("none is less", none.houses(), -9);
        Due.is("AT is as told", none.person(0, 0), 0);
        Due.is("soonest is as before", none.soonest(0), 10);
    }

    private static void days() {
        NobodyCarries x = Due.town("w01,10;p01,0,0,9;p01,0,0,9;t0001,1,360,9;t1101,1,500,9;t0000,1,0,1;");
        for (int n = 1; n <= 14; n++) {
            int z = n * 123456789;
            int due = 0;
            int seed = z;
            for (int day = 0; day < n; day++) {
                seed = seed * 1664525 + 1013904223;
                int first = (int) ((seed & 0x7fffffffL) >> 8) % 721;
                seed = seed * 1664525 + 1013904223;
                int second = (int) ((seed & 0x7fffffffL) >> 8) % 721;
                due += (second + 10 <= 360 ? 1 : 0) + (first + 10 <= 500 ? 1 : 0) + 1;
            }
            Due.is("days(" + n + ", " + z + ")", x.days(n, z), due);
        }
        Due.is("days(0, 0)", x.days(0, 0), -4);
        Due.is("days(15, 0)", x.days(15, 0), -6);
        Due.is("days(-2147483648, 0)", x.days(-2147483648, 0), -4);
        Due.is("FROM is as told", x.person(0, 2), 0);
        Due.is("soonest(0)", x.soonest(0), 10);
        Due.is("of nothing", new NobodyCarries().days(14, 7), 0);
    }
}
