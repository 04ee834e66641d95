/** Terms, rounds and rows, and promises 21 to 24, 28 and 29: every edge that they name. */
final class RoundEdgesTest {
    private static final String CHAIN = "n7;w01,10;w12,10;w23,10;w34,10;w45,10;w56,10;";

    public static void main(String[] args) {
        round();
        roundOfNone();
        roundMayNot();
        roundByBy();
        more();
        eachOneThing();
        eachGreatest();
        eachFirst();
        eachFull();
        eachOfNothing();
        pay();
        fewestWho();
        fewestFromPlaceZero();
        fewestNotInTime();
        fewestCanNot();
        rowFull();
        judgeMayNot();
        judgeNoSuchPerson();
        judgeHadAThing();
        judgeTooShort();
        judgeTooLong();
        judgeElse();
        judgeLeavesNone();
        Due.end();
    }

    private static void round() {
        Due.sentence("Terms", "ROUND: a PERSON for one THING: goes at FROM from AT to the THING's AT, to its TO, to his TO:");
        NobodyCarries x = Due.town(CHAIN, "p35,100,0,9;p00,0,0,0;", "t1116,1,999,9;t1134,1,999,9;t1133,1,999,9;t1100,1,999,9;");
        int[] minutes = {170, 110, 100, 130};
        int[] more = {60, 0, 0, 60};
        for (int t = 0; t < minutes.length; t++) {
            Due.is("round(0, " + t + ", 0)", x.round(0, t, 0), minutes[t]);
            Due.is("round(0, " + t + ", 1)", x.round(0, t, 1), more[t]);
        }
        Due.sentence("Terms", "it is there at such a MINUTE");
        Due.is("town()", Due.tell(x, "p66,720,0,9;t1160,1,999,9;t1106,1,999,9;"), 3);
        Due.is("720 and 60 minutes", x.round(2, 4, 0), 780);
        Due.is("720 and 120 minutes", x.round(2, 5, 0), 840);
    }

    private static void roundOfNone() {
        Due.sentence("Promise 21", "-9 none.");
        NobodyCarries x = Due.town("n7;w01,10;w23,10;p01,0,0,9;p02,0,0,9;p22,0,0,0;", "t2223,1,999,9;t2212,1,999,9;t2201,1,999,9;");
        for (int what = 0; what <= 1; what++) {
            Due.is("its AT can not be come to", x.round(0, 0, what), -9);
            Due.is("its TO can not be come to", x.round(0, 1, what), -9);
            Due.is("his TO can not be come to", x.round(1, 2, what), -9);
        }
        Due.is("round(0, 2, 0)", x.round(0, 2, 0), 10);
        Due.is("-9 is no refusal", x.count(11) + x.count(13), 0);
    }

    private static void roundMayNot() {
        Due.sentence("Terms", "(none, if he MAY not as he goes on with it,");
        NobodyCarries x = Due.town("w01,10;p00,709,0,9;p00,710,0,9;p00,700,0,9;t2210,1,999,9;t0110,1,999,9;");
        Due.is("the owner", x.round(2, 0, 0), -9);
        Due.is("another", x.round(0, 0, 0), 729);
        Due.is("two owners", x.round(0, 1, 0), -9);
        Due.is("and the second", x.round(1, 1, 0), -9);
        Due.is("law(4)", x.law(4), 0);
        Due.is("goes on at 719", x.round(0, 1, 0), -9);
        Due.is("goes on at 720", x.round(1, 1, 0), 730);
        Due.is("goes on at 710, is there at 720", x.round(2, 0, 0), -9);
        Due.is("law(3)", x.law(3), 4);
        Due.is("the owner by NONE", x.round(2, 0, 0), 720);
        NobodyCarries kin = Due.town("w01,10;p00,0,3,9;p00,0,3,9;p00,0,0,9;t1101,1,999,9;");
        kin.law(1);
        Due.is("kin", kin.round(0, 0, 0), -9);
        Due.is("kin of none", kin.round(2, 0, 0), 10);
        NobodyCarries room = Due.town("w01,10;p00,0,0,4;p00,0,0,5;p00,0,0,9;t2201,5,999,9;");
        room.law(3);
        Due.is("room 4 for size 5", room.round(0, 0, 0), -9);
        Due.is("room 5 for size 5", room.round(1, 0, 0), 10);
    }

    private static void roundByBy() {
        Due.sentence("Terms", "or it is later than BY)");
        NobodyCarries x = Due.town("w01,10;p00,5,0,9;p11,0,0,0;", "t1101,1,15,9;t1101,1,14,9;t1100,1,5,9;t1100,1,4,9;");
        Due.is("by BY", x.round(0, 0, 0), 15);
        Due.is("by BY, MORE, though he is back later", x.round(0, 0, 1), 20);
        Due.is("a minute later", x.round(0, 1, 0), -9);
        Due.is("a minute later, MORE", x.round(0, 1, 1), -9);
        Due.is("where it is, by BY", x.round(0, 2, 0), 5);
        Due.is("where it is, a minute later", x.round(0, 3, 0), -9);
    }

    private static void more() {
        Due.sentence("Terms", "MORE: minutes more than HIS WAY.");
        NobodyCarries x = Due.town("w01,10;w12,10;w02,15;p02,0,0,9;p00,0,0,0;t1102,1,99,9;t1112,1,99,9;t1121,1,99,9;");
        Due.is("on his way", x.round(0, 0, 1), 0);
        Due.is("over 1", x.round(0, 1, 1), 5);
        Due.is("there, to 1 and back", x.round(0, 2, 1), 20);
        Due.sentence("Promise 21", "ROUND: the MINUTE (what 0), MORE (1);");
        Due.is("round(0, 2, 0)", x.round(0, 2, 0), 25);
        Due.is("round(0, 2, 1)", x.round(0, 2, 1), 20);
    }

    private static void deal(NobodyCarries x, int sum, int... things) {
        Due.is("each(-1)", x.each(-1), sum);
        for (int p = 0; p < things.length; p++) {
            Due.is("each(" + p + ")", x.each(p), things[p]);
        }
    }

    private static void eachOneThing() {
        Due.sentence("Terms", "EACH: of all ways by which each PERSON has one THING at most");
        NobodyCarries x = Due.town("w01,10;p01,0,0,9;p33,0,0,0;t1101,1,99,5;t1101,1,99,7;t1101,1,99,6;");
        deal(x, 7, 1, -9);
        Due.sentence("Terms", "(each THING one at most; in ROUNDS that are)");
        NobodyCarries one = Due.town("w01,10;p01,0,0,9;p01,0,0,9;p33,0,0,0;t2201,1,99,5;");
        deal(one, 5, -9, 0, -9);
        NobodyCarries late = Due.town("w01,10;p01,0,0,9;p33,0,0,0;t1101,1,9,99;t1101,1,10,1;t0001,1,99,99;");
        deal(late, 1, 1, -9);
    }

    private static void eachGreatest() {
        Due.sentence("Terms", "that with the greatest sum of WORTHS less MORE,");
        NobodyCarries x = Due.town("w01,10;w02,10;p00,0,0,9;p01,0,0,9;p33,0,0,0;t2201,1,99,30;t2202,1,99,30;");
        deal(x, 10 + 30, 1, 0, -9);
        NobodyCarries less = Due.town("w01,10;p00,0,0,9;p11,0,0,0;t1101,1,99,21;t1101,1,99,20;");
        deal(less, 1, 0, -9);
        NobodyCarries loss = Due.town("w01,10;p00,0,0,9;p11,0,0,0;t1101,1,99,19;");
        deal(loss, 0, -9, -9);
        NobodyCarries greedy = Due.town("w01,10;p01,0,0,9;p01,0,0,1;p33,0,0,0;t2201,1,99,50;t2201,2,99,40;");
        deal(greedy, 90, 1, 0, -9);
    }

    private static void eachFirst() {
        Due.sentence("Terms", "of several the first by PERSONS (none, THING 0, ..)");
        NobodyCarries nothing = Due.town("w01,10;p00,0,0,9;p11,0,0,0;t1101,1,99,20;");
        deal(nothing, 0, -9, -9);
        NobodyCarries zero = Due.town("w01,10;p01,0,0,9;p33,0,0,0;t1101,1,99,0;");
        deal(zero, 0, -9, -9);
        NobodyCarries two = Due.town("w01,10;p01,0,0,9;p01,0,0,9;p33,0,0,0;t2201,1,99,5;t2201,1,99,5;");
        deal(two, 10, 0, 1, -9);
        NobodyCarries three = Due.town("w01,10;p01,0,0,9;p01,0,0,9;p01,0,0,9;p33,0,0,0;t3301,1,99,5;t3301,1,99,5;");
        deal(three, 10, -9, 0, 1, -9);
        NobodyCarries last = Due.town("w01,10;p01,0,0,9;p33,0,0,0;t1101,1,99,5;t1101,1,99,6;t1101,1,99,6;");
        deal(last, 6, 1, -9);
    }

    private static void eachFull() {
        Due.sentence("Terms", ": how much; whose THING.");
        NobodyCarries few = Due.town("w01,10;p01,0,0,9;p33,0,0,9;p33,0,0,0;t2233,1,99,6;t2201,1,99,5;");
        deal(few, 11, 1, 0, -9);
        Due.sentence("Promise 22", "EACH: the sum (person -1), whose THING a PERSON has;");
        NobodyCarries x = Due.town("w01,10;", "p01,0,0,9;".repeat(6),
                "t0001,1,99,10;t1101,1,99,11;t2201,1,99,12;t3301,1,99,13;t4401,1,99,14;t5501,1,99,15;");
        deal(x, 75, 1, 0, 3, 2, 5, 4);
        for (int p = 0; p < 6; p++) {
            Due.is("pay(" + p + ")", x.pay(p), 10);
        }
        NobodyCarries most = Due.town("w01,10;", "p01,0,0,9;".repeat(6), "t0001,1,99,99;".repeat(6));
        deal(most, 495, -9, 0, 1, 2, 3, 4);
        most.law(3);
        deal(most, 594, 0, 1, 2, 3, 4, 5);
    }

    private static void eachOfNothing() {
        Due.sentence("Promise 22", "-9 none.");
        NobodyCarries x = new NobodyCarries();
        Due.is("each(-1) of nobody", x.each(-1), 0);
        Due.is("each(0) of nobody", x.each(0), -1);
        Due.is("a person", Due.tell(x, "p00,0,0,9;"), 1);
        deal(x, 0, -9);
        Due.is("pay(0)", x.pay(0), 0);
    }

    private static void pay() {
        Due.sentence("Terms", "PAY: how much that sum would be less, if a PERSON had none.");
        NobodyCarries x = Due.town("w01,10;p01,0,0,9;p00,0,0,9;p33,0,0,0;t2201,1,99,30;t2201,1,99,50;");
        deal(x, 50 - 20 + 30, 0, 1, -9);
        Due.is("without 0, 1 has 50 less 20", x.pay(0), 30);
        Due.is("without 1, 0 has 50", x.pay(1), 10);
        Due.is("who has none anyway", x.pay(2), 0);
        Due.sentence("Promise 23", "PAY.");
        NobodyCarries only = Due.town("w01,10;p01,0,0,9;p33,0,0,0;t1101,1,99,99;");
        Due.is("the only one", only.pay(0), 99);
    }

    private static void fewestWho() {
        Due.sentence("Terms", "FEWEST: people who own nothing (ROOM 9, KIN 0),");
        NobodyCarries x = Due.town("w01,10;p00,0,0,0;p01,0,0,8;t0001,9,10,9;");
        for (int law = 0; law <= 4; law++) {
            x.law(law);
            Due.is("size 9 by law " + law, x.fewest(), 1);
        }
    }

    private static void fewestFromPlaceZero() {
        Due.sentence("Terms", "each AT PLACE 0 at MINUTE 0, each for one THING by a ROUND without TO:");
        NobodyCarries x = Due.town(CHAIN, "p00,0,0,0;t0023,1,30,9;t0001,1,10,9;t0030,1,60,9;");
        Due.is("each just by BY", x.fewest(), 3);
        String[] late = {"t0023,1,29,9;", "t0001,1,9,9;", "t0030,1,59,9;"};
        for (String text : late) {
            NobodyCarries y = Due.town(CHAIN, "p00,0,0,0;", text);
            Due.is("a minute too late: " + text, y.fewest(), -9);
        }
        Due.sentence("Promise 24", "FEWEST;");
        NobodyCarries six = Due.town("w01,10;p00,0,0,0;", "t0001,1,10,9;".repeat(6));
        Due.is("six for six", six.fewest(), 6);
        Due.is("none for nothing", new NobodyCarries().fewest(), 0);
    }

    private static void fewestNotInTime() {
        Due.sentence("Terms", "how many are needed so that all THINGS which are not SOONEST by BY can be;");
        NobodyCarries x = Due.town("w01,10;p01,40,0,9;p33,0,0,0;t1101,1,50,9;t1101,1,49,9;t1100,1,0,9;t1101,1,51,9;");
        Due.is("one is a minute late", x.fewest(), 1);
        Due.is("law(0)", x.law(0), 0);
        NobodyCarries owners = Due.town("w01,10;p01,0,0,9;t0001,1,50,9;t0001,1,50,9;");
        Due.is("two that can not be", owners.fewest(), 2);
        owners.law(3);
        Due.is("by NONE they can", owners.fewest(), 0);
    }

    private static void fewestCanNot() {
        Due.sentence("Terms", "-9 one can not.");
        NobodyCarries at = Due.town("n7;w01,10;w23,10;p00,0,0,0;t0001,1,99,9;t0023,1,999,9;");
        Due.is("its AT can not be come to", at.fewest(), -9);
        NobodyCarries to = Due.town("n7;w01,10;w23,10;p00,0,0,0;t0012,1,999,9;t0001,1,99,9;");
        Due.is("its TO can not be come to", to.fewest(), -9);
        NobodyCarries brought = Due.town("n7;w01,10;w23,10;p00,0,0,0;p23,0,0,9;t0023,1,10,9;t0001,1,99,9;");
        Due.is("a person brings that one", brought.fewest(), 1);
        Due.sentence("Promise 24", "-9.");
        NobodyCarries late = Due.town("w01,10;p00,0,0,0;t0001,1,9,9;");
        Due.is("a minute too late", late.fewest(), -9);
        Due.is("-9 is no refusal", late.count(11) + late.count(13), 0);
    }

    private static void rowFull() {
        Due.sentence("Terms", "A ROW of PERSONS (0 .. 9; 9: none; 6 at most)");
        NobodyCarries x = Due.town("w01,10;", "p01,0,0,9;".repeat(6), "t0001,1,99,9;".repeat(6));
        x.law(3);
        for (int i = 0; i < 6; i++) {
            Due.is("row(" + (5 - i) + ")", x.row(5 - i), i + 1);
            Due.is("in the ROW", x.count(4), i + 1);
        }
        Due.is("a seventh", x.row(9), -6);
        Due.is("six for six", x.judge(), -9);
        for (int v = 0; v <= 9; v++) {
            Due.is("row(" + v + ")", x.row(v), 1);
            Due.is("judge() of " + v, x.judge(), v <= 5 || v == 9 ? 1 : 0);
        }
    }

    private static int judged(NobodyCarries x, int... persons) {
        for (int i = 0; i < persons.length; i++) {
            Due.is("row(" + persons[i] + ")", x.row(persons[i]), i + 1);
        }
        return x.judge();
    }

    /** 0 may carry 0 and 2, 1 may carry 2 and (a minute too late) 1, 2 has no room. */
    private static NobodyCarries three() {
        return Due.town("w01,10;p01,0,0,9;p01,1,0,9;p01,0,0,0;t1101,1,10,9;t0001,1,10,9;t2201,1,11,9;");
    }

    private static void judgeMayNot() {
        Due.sentence("Terms", "JUDGED: the first THING whose PERSON MAY not carry it by a ROUND");
        NobodyCarries x = three();
        Due.is("the owner", judged(x, 1, 9, 9), 0);
        Due.is("the owner of the next", judged(x, 9, 0, 9), 1);
        Due.is("a minute later than BY", judged(x, 9, 1, 9), 1);
        Due.is("just by BY", judged(x, 0, 9, 1), -9);
        Due.is("no ROOM", judged(x, 0, 9, 2), 2);
        Due.is("the first of two", judged(x, 0, 2, 2), 1);
        Due.is("law(3)", x.law(3), 0);
        Due.is("by NONE", judged(x, 9, 0, 1), -9);
    }

    private static void judgeNoSuchPerson() {
        Due.sentence("Terms", "(no such PERSON;");
        NobodyCarries x = three();
        for (int v = 3; v <= 8; v++) {
            Due.is("no person " + v, judged(x, v, 9, 9), 0);
            Due.is("no person " + v + " at last", judged(x, 0, 9, v), 2);
        }
    }

    private static void judgeHadAThing() {
        Due.sentence("Terms", "one who had a THING ahead, too);");
        NobodyCarries x = three();
        Due.is("0 twice", judged(x, 0, 9, 0), 2);
        Due.is("0 once", judged(x, 9, 9, 0), -9);
        Due.is("none many times", judged(x, 9, 9, 9), -9);
        Due.is("judged anew each time", judged(x, 0, 9, 1), -9);
        NobodyCarries any = Due.town("w01,10;p01,0,0,9;p01,0,0,9;p33,0,0,0;", "t2201,1,99,9;".repeat(3));
        Due.is("0 twice, another between", judged(any, 0, 1, 0), 2);
        Due.is("1 twice at once", judged(any, 1, 1, 0), 1);
        Due.is("0 and 1", judged(any, 1, 9, 0), -9);
    }

    private static void judgeTooShort() {
        Due.sentence("Terms", "where it ends, if too short;");
        NobodyCarries x = three();
        Due.is("empty", judged(x), 0);
        Due.is("one", judged(x, 0), 1);
        Due.is("two", judged(x, 9, 9), 2);
        Due.is("a bad one ahead of the end", judged(x, 9, 0), 1);
    }

    private static void judgeTooLong() {
        Due.sentence("Terms", "how many THINGS, if too long;");
        NobodyCarries x = three();
        Due.is("four", judged(x, 0, 9, 1, 9), 3);
        Due.is("six", judged(x, 9, 9, 9, 9, 9, 9), 3);
        Due.is("beyond the THINGS nobody is looked at", judged(x, 0, 9, 9, 0, 8), 3);
        Due.is("a bad one ahead of it", judged(x, 0, 9, 0, 9), 2);
        NobodyCarries none = new NobodyCarries();
        Due.is("of nothing", judged(none, 9), 0);
    }

    private static void judgeElse() {
        Due.sentence("Terms", ", one for each THING:");
        Due.is("the second for THING 1", judged(three(), 9, 2, 9), 1);
        Due.is("the third for THING 2", judged(three(), 9, 9, 2), 2);
        Due.sentence("Promise 29", "JUDGED; -9");
        NobodyCarries x = three();
        Due.is("judge()", judged(x, 0, 9, 1), -9);
        Due.is("-9 is no refusal", x.count(11) + x.count(13), 0);
        Due.sentence("Terms", "else -9.");
        Due.is("of nothing, empty", new NobodyCarries().judge(), -9);
        Due.is("as long as the THINGS", judged(three(), 0, 9, 1), -9);
    }

    private static void judgeLeavesNone() {
        Due.sentence("Promise 29", "(whichever it answers, the ROW has none then)");
        NobodyCarries x = three();
        int[][] rows = {{0, 9, 1}, {1, 9, 9}, {0}, {9, 9, 9, 9}, {8}};
        for (int[] row : rows) {
            judged(x, row);
            Due.is("in the ROW", x.count(4), 0);
        }
        Due.is("empty then", x.judge(), 0);
    }
}
