/** Promises 21 to 24, 28 and 29: rounds, their best dealing out, people who own nothing, rows. */
final class DealTest {
    public static void main(String[] args) {
        round();
        roundByNight();
        each();
        eachOfSeveral();
        fewest();
        row();
        judge();
        Due.end();
    }

    private static void round() {
        NobodyCarries x = Due.town("n5;w01,10;w12,10;w23,10;p01,5,0,9;p04,0,0,9;p33,0,0,1;", "t2212,1,25,9;t2212,1,24,9;t2232,2,99,9;t2200,1,5,9;");
        Due.is("round(0, 0, 0)", x.round(0, 0, 0), 25);
        Due.is("round(0, 0, 1)", x.round(0, 0, 1), 20);
        Due.is("a minute later than BY", x.round(0, 1, 0), -9);
        Due.is("MORE of none", x.round(0, 1, 1), -9);
        Due.is("round(0, 2, 0)", x.round(0, 2, 0), 45);
        Due.is("round(0, 2, 1)", x.round(0, 2, 1), 40);
        Due.is("he can not come to his TO", x.round(1, 0, 0), -9);
        Due.is("an owner", x.round(2, 0, 0), -9);
        Due.is("it is there already", x.round(0, 3, 0), 5);
        Due.is("round(0, 3, 1)", x.round(0, 3, 1), 0);
        Due.is("law(3)", x.law(3), 0);
        Due.is("round(2, 0, 0) later than BY", x.round(2, 0, 0), -9);
        Due.is("no room", x.round(2, 2, 0), -9);
        Due.is("round(3, 0, 2)", x.round(3, 0, 2), -1);
        Due.is("round(-1, 0, 0)", x.round(-1, 0, 0), -1);
        Due.is("round(0, 4, 0)", x.round(0, 4, 0), -1);
        Due.is("round(0, -1, 0)", x.round(0, -1, 0), -1);
        Due.is("round(0, 0, 2)", x.round(0, 0, 2), -2);
        Due.is("round(0, 0, -1)", x.round(0, 0, -1), -2);
        Due.is("refusals -2", x.count(12), 2);
    }

    private static void roundByNight() {
        NobodyCarries x = Due.town("w01,10;p00,710,0,9;p00,709,0,9;t0110,1,999,9;");
        Due.is("law(4)", x.law(4), 0);
        Due.is("night as he goes on with it", x.round(0, 0, 0), 730);
        Due.is("a minute ahead of night", x.round(1, 0, 0), -9);
    }

    private static void each() {
        NobodyCarries x = Due.town("w01,10;p11,0,0,9;p01,0,0,9;p33,0,0,0;", "t2201,1,99,30;t2201,1,99,25;t2211,1,99,55;");
        Due.is("55 by 0 and 30 by 1", x.each(-1), 85);
        Due.is("each(0)", x.each(0), 2);
        Due.is("each(1)", x.each(1), 0);
        Due.is("each(2)", x.each(2), -9);
        Due.is("each(3)", x.each(3), -1);
        Due.is("each(-2)", x.each(-2), -1);
        Due.is("pay(0): 55 by 1 is left", x.pay(0), 30);
        Due.is("pay(1): 55 by 0 is left", x.pay(1), 30);
        Due.is("pay(2)", x.pay(2), 0);
        Due.is("pay(3)", x.pay(3), -1);
        Due.is("pay(-1)", x.pay(-1), -1);
        Due.is("refusals -1", x.count(11), 4);
    }

    private static void eachOfSeveral() {
        NobodyCarries x = Due.town("w01,10;p01,0,0,9;p01,0,0,9;p33,0,0,0;", "t2201,1,99,30;t2201,1,99,30;t2201,1,5,99;");
        Due.is("each(-1)", x.each(-1), 60);
        Due.is("each(0)", x.each(0), 0);
        Due.is("each(1)", x.each(1), 1);
        NobodyCarries even = Due.town("w01,10;p00,0,0,9;p01,0,0,9;p33,0,0,0;", "t2201,1,99,30;t2211,1,99,50;");
        Due.is("10 and 50, or 30 and 30", even.each(-1), 60);
        Due.is("the lesser thing for the lesser person", even.each(0), 0);
        Due.is("even.each(1)", even.each(1), 1);
        Due.is("pay(0)", even.pay(0), 10);
        Due.is("pay(1)", even.pay(1), 30);
        NobodyCarries one = Due.town("w01,10;p01,0,0,9;p01,0,0,9;p33,0,0,0;t2201,1,99,30;");
        Due.is("none comes ahead of a thing", one.each(0), -9);
        Due.is("so the last has it", one.each(1), 0);
        Due.is("pay(0)", one.pay(0), 0);
        Due.is("pay(1)", one.pay(1), 0);
        NobodyCarries no = Due.town("w01,10;p00,0,0,9;p33,0,0,0;t1101,1,99,20;t1101,1,99,19;");
        Due.is("worth no more than MORE", no.each(-1), 0);
        Due.is("so none", no.each(0), -9);
    }

    private static void fewest() {
        NobodyCarries x = Due.town("n5;w01,10;w12,10;p02,0,0,9;p33,0,0,0;", "t1102,1,20,9;t0012,1,20,9;t0021,1,30,9;t1133,1,0,9;");
        Due.is("0 is in time, 1 and 2 need one each", x.fewest(), 2);
        Due.is("law(3)", x.law(3), 0);
        Due.is("1 can be then", x.fewest(), 1);
        Due.is("law(0)", x.law(0), 3);
        Due.is("a minute too little", Due.tell(x, "t0021,1,29,9;"), 1);
        Due.is("fewest()", x.fewest(), -9);
        NobodyCarries late = Due.town("w01,10;p01,91,0,9;p33,0,0,0;t1101,1,100,9;");
        Due.is("soonest, but not by BY", late.fewest(), 1);
        NobodyCarries far = Due.town("p33,0,0,9;t0001,1,999,9;");
        Due.is("no way", far.fewest(), -9);
        Due.is("of nothing", new NobodyCarries().fewest(), 0);
    }

    private static void row() {
        NobodyCarries x = new NobodyCarries();
        Due.is("row(-1)", x.row(-1), -4);
        Due.is("row(10)", x.row(10), -6);
        for (int i = 1; i <= 6; i++) {
            Due.is("row " + i, x.row(i % 2 * 9), i);
        }
        Due.is("row 7", x.row(0), -6);
        Due.is("row 7, below", x.row(-1), -4);
        Due.is("in the row", x.count(4), 6);
        Due.is("too long", x.judge(), 0);
        Due.is("in the row", x.count(4), 0);
        Due.is("an empty row for nothing", x.judge(), -9);
    }

    private static int judged(NobodyCarries x, int... persons) {
        for (int person : persons) {
            x.row(person);
        }
        int answer = x.judge();
        Due.is("in the row behind judge()", x.count(4), 0);
        return answer;
    }

    private static void judge() {
        NobodyCarries x = Due.town("w01,10;p01,0,0,9;p01,5,0,9;p33,0,0,0;", "t2201,1,10,30;t0001,1,15,30;t2201,1,99,1;");
        Due.is("0 1 9", judged(x, 0, 1, 9), -9);
        Due.is("9 9 9", judged(x, 9, 9, 9), -9);
        Due.is("9 1 0", judged(x, 9, 1, 0), -9);
        Due.is("1 is too late for 0", judged(x, 1, 0, 9), 0);
        Due.is("0 owns 1", judged(x, 9, 0, 9), 1);
        Due.is("0 twice", judged(x, 0, 9, 0), 2);
        Due.is("no such person", judged(x, 0, 3, 9), 1);
        Due.is("no room", judged(x, 2, 3, 9), 0);
        Due.is("too short", judged(x, 0, 1), 2);
        Due.is("empty", judged(x), 0);
        Due.is("too long", judged(x, 0, 1, 9, 9), 3);
        Due.is("a bad one comes ahead of too long", judged(x, 0, 0, 9, 9), 1);
        Due.is("a bad one comes ahead of too short", judged(x, 2), 0);
    }
}
