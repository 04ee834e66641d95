import java.util.ArrayList;
import java.util.List;

/** Terms, what is in mind, and promises 16 to 20: every edge that they name. */
final class MindEdgesTest {
    private static final String CHAIN = "n7;w01,10;w12,10;w23,10;w34,10;w45,10;w56,10;";
    private static final String LONG_CHAIN = "n7;w01,60;w12,60;w23,60;w34,60;w45,60;w56,60;";

    public static void main(String[] args) {
        allFromTheBeginning();
        nothingIsGiven();
        hisWay();
        noWay();
        noLater();
        mayAtThatMinute();
        toAnyLaterOne();
        relay();
        thereFromTheFirst();
        canNotBe();
        overFromTheEnd();
        overTheLeast();
        overHowMany();
        barsOfRoom();
        barsEachAlone();
        barsIfItCanBe();
        never();
        why();
        whyOfWhoMay();
        Due.end();
    }

    private static void soonest(NobodyCarries x, int... due) {
        for (int t = 0; t < due.length; t++) {
            Due.is("soonest(" + t + ")", x.soonest(t), due[t]);
        }
    }

    private static void overs(NobodyCarries x, int thing, int... persons) {
        Due.is("over(" + thing + ", -1)", x.over(thing, -1), persons.length);
        for (int i = 0; i < persons.length; i++) {
            Due.is("over(" + thing + ", " + i + ")", x.over(thing, i), persons[i]);
        }
        Due.is("over(" + thing + ", " + persons.length + ")", x.over(thing, persons.length), -9);
    }

    private static List<Integer> inMind(NobodyCarries x) {
        List<Integer> all = new ArrayList<>();
        for (int t = 0; t < 3; t++) {
            all.add(x.soonest(t));
            all.add(x.over(t, -1));
            all.add(x.over(t, 0));
            all.add(x.bars(t));
            all.add(x.why(t));
            for (int p = 0; p < 3; p++) {
                all.add(x.round(p, t, 0));
                all.add(x.round(p, t, 1));
            }
        }
        for (int p = 0; p < 3; p++) {
            all.add(x.each(p));
            all.add(x.pay(p));
        }
        int[] sums = {x.never(), x.each(-1), x.fewest(), x.beside(), x.houses(), x.days(3, 5)};
        for (int sum : sums) {
            all.add(sum);
        }
        x.row(9);
        x.row(0);
        x.row(1);
        all.add(x.judge());
        return all;
    }

    private static void allFromTheBeginning() {
        Due.sentence("Terms", "In mind, all from the beginning (THINGS lie where they were told, from MINUTE 0,");
        NobodyCarries x = Due.town("w01,10;w12,10;p02,0,1,9;p12,10,1,9;p20,5,2,9;t2202,1,40,30;t2210,1,40,20;t0012,1,40,9;");
        List<Integer> first = inMind(x);
        Due.is("take(0, 0)", x.take(0, 0), 0);
        Due.is("go(0, 1)", x.go(0, 1), 10);
        Due.is("while it is carried", inMind(x).equals(first) ? 1 : 0, 1);
        Due.is("tarry(0, 600)", x.tarry(0, 600), 610);
        Due.is("lay(0, 0)", x.lay(0, 0), 610);
        Due.is("take(1, 2)", x.take(1, 2), 10);
        Due.is("take(1, 1)", x.take(1, 1), 10);
        Due.is("go(1, 2)", x.go(1, 2), 20);
        Due.is("lay(1, 1)", x.lay(1, 1), 20);
        Due.is("behind all that", inMind(x).equals(first) ? 1 : 0, 1);
        Due.sentence("Terms", "PERSONS AT, FROM as told).");
        Due.is("go(2, 0)", x.go(2, 0), 25);
        Due.is("tarry(2, 600)", x.tarry(2, 600), 625);
        Due.is("where they are is nothing to it", inMind(x).equals(first) ? 1 : 0, 1);
        Due.is("soonest(0)", x.soonest(0), 20);
    }

    private static void nothingIsGiven() {
        Due.sentence("Terms", "nothing is GIVEN;");
        NobodyCarries x = Due.town("w01,10;p01,0,0,9;p11,0,0,0;t0001,1,99,30;");
        x.law(2);
        Due.is("give(0, 0)", x.give(0, 0), 0);
        Due.is("may(0, 0, 0) now", x.may(0, 0, 0), 1);
        soonest(x, -9);
        Due.is("bars(0)", x.bars(0), 1);
        Due.is("why(0)", x.why(0), 1);
        Due.is("round(0, 0, 0)", x.round(0, 0, 0), -9);
        Due.is("each(0)", x.each(0), -9);
        Due.is("fewest()", x.fewest(), 1);
        Due.is("beside()", x.beside(), 989);
        Due.is("days(14, 1)", x.days(14, 1), 0);
        Due.is("row(0)", x.row(0), 1);
        Due.is("judge()", x.judge(), 0);
    }

    private static void hisWay() {
        Due.sentence("Terms", "HIS WAY: a PERSON goes at FROM from AT to TO by least MINUTES");
        NobodyCarries least = Due.town("w01,10;w12,10;w02,21;p02,7,0,9;p33,0,0,0;t1101,1,9,9;");
        soonest(least, 17);
        Due.is("told again", Due.tell(least, "w02,19;"), 1);
        soonest(least, -9);
        NobodyCarries minute = Due.town("w01,1;w12,1;w23,1;p03,0,0,9;p00,0,0,0;t1101,1,9,9;t1112,1,9,9;t1103,1,9,9;");
        soonest(minute, 1, 2, 3);
        Due.sentence("Terms", "(of several PLACES on the way always the least next one)");
        NobodyCarries straight = Due.town("w03,10;w01,5;w13,5;p03,0,0,9;p30,0,0,9;p22,0,0,0;t2201,1,9,9;t2231,1,9,9;");
        soonest(straight, 5, -9);
        NobodyCarries twice = Due.town("n7;w01,5;w02,5;w13,5;w23,5;w34,5;w35,5;w46,5;w56,5;",
                "p06,0,0,9;p60,0,0,9;p11,0,0,0;", "t2201,1,9,9;t2202,1,9,9;t2204,1,9,9;t2205,1,9,9;t2264,1,9,9;t2262,1,9,9;");
        soonest(twice, 5, -9, 15, -9, 5, -9);
        NobodyCarries back = Due.town("n7;w01,5;w02,5;w13,5;w23,5;w34,5;w35,5;w46,5;w56,5;",
                "p60,0,0,9;p11,0,0,0;", "t1161,1,9,9;t1165,1,9,9;");
        soonest(back, 15, -9);
    }

    private static void noWay() {
        Due.sentence("Terms", "none, if TO can not be come to.");
        NobodyCarries x = Due.town("w01,10;p02,0,0,9;p33,0,0,0;t1101,1,99,9;t1100,1,99,9;");
        soonest(x, -9, 0);
        Due.is("he is not by its AT", x.why(0), 1);
        Due.is("bars(0)", x.bars(0), 0);
        Due.is("days(14, 3)", x.days(14, 3), 14);
        Due.is("a way more", Due.tell(x, "w12,10;"), 1);
        soonest(x, 10, 0);
        NobodyCarries stays = Due.town("w01,10;p00,0,0,9;p33,0,0,0;t1101,1,99,9;");
        soonest(stays, -9);
        Due.is("one who stays is by its AT", stays.why(0), 2);
    }

    private static void noLater() {
        Due.sentence("Terms", "(at the MINUTE at which he is at a PLACE of his way, if it is there no later)");
        int[] from = {9, 10, 11};
        int[] due = {-9, 20, 21};
        for (int i = 0; i < from.length; i++) {
            NobodyCarries x = Due.town("w01,10;w12,10;p01,0,0,9;p12," + from[i] + ",0,9;p33,0,0,0;t2202,1,99,9;");
            soonest(x, due[i]);
            NobodyCarries turned = Due.town("w01,10;w12,10;p12," + from[i] + ",0,9;p01,0,0,9;p33,0,0,0;t2202,1,99,9;");
            soonest(turned, due[i]);
        }
        NobodyCarries at = Due.town("w01,10;p01,0,0,9;p33,0,0,0;t1101,1,99,9;");
        soonest(at, 10);
    }

    private static void mayAtThatMinute() {
        Due.sentence("Terms", "if all go their ways, and each who MAY");
        for (int from = 709; from <= 710; from++) {
            NobodyCarries x = Due.town("w01,10;w12,10;p02," + from + ",0,9;t0002,1,99,9;t0012,1,99,9;");
            x.law(4);
            soonest(x, -9, from == 710 ? 730 : -9);
        }
        NobodyCarries owner = Due.town("w01,10;p01,0,1,9;p01,5,1,9;p01,7,0,9;p01,9,0,1;t0001,2,99,9;");
        int[] due = {15, 17, 15, 10, 17};
        for (int law = 0; law < due.length; law++) {
            owner.law(law);
            soonest(owner, due[law]);
        }
        NobodyCarries room = Due.town("w01,10;p01,0,0,4;p01,1,0,5;p33,0,0,0;t2201,5,99,9;t2201,4,99,9;");
        soonest(room, 11, 10);
    }

    private static void toAnyLaterOne() {
        Due.sentence("Terms", "takes it along from there to any later one;");
        NobodyCarries x = Due.town(CHAIN, "p26,0,0,9;p00,0,0,0;", "t1123,1,9,9;t1126,1,9,9;t1135,1,9,9;t1132,1,9,9;t1112,1,9,9;");
        soonest(x, 10, 40, 30, -9, -9);
        Due.sentence("Terms", "the least MINUTE at which it can be at its TO");
        NobodyCarries many = Due.town("w01,10;w12,10;w02,25;p02,0,0,9;p02,9,0,9;p33,0,0,0;t2202,1,99,9;t0002,1,99,9;");
        soonest(many, 20, 29);
        NobodyCarries late = Due.town(LONG_CHAIN, "p06,720,0,9;p00,0,0,0;t1106,1,999,9;");
        soonest(late, 1080);
    }

    /** Each takes it from the person behind him, so that the last person must be thought of first. */
    private static void relay() {
        Due.sentence("Promise 16", "SOONEST;");
        String people = "p56,50,0,9;p45,40,0,9;p34,30,0,9;p23,20,0,9;p12,10,0,9;p01,0,0,9;";
        NobodyCarries x = Due.town(CHAIN, people, "t0006,1,99,9;");
        x.law(3);
        soonest(x, 60);
        overs(x, 0, 5, 4, 3, 2, 1, 0);
        NobodyCarries missed = Due.town(CHAIN, people.replace("p34,30", "p34,29"), "t0006,1,99,9;t0003,1,99,9;");
        missed.law(3);
        soonest(missed, -9, 30);
    }

    private static void thereFromTheFirst() {
        Due.sentence("Terms", "0, if it is there from the first;");
        NobodyCarries x = Due.town("p00,720,0,0;t0000,9,0,9;t0033,9,0,9;t0030,9,0,9;");
        soonest(x, 0, 0, -9);
        overs(x, 0);
        overs(x, 1);
        Due.is("never()", x.never(), 4);
        Due.is("take there and lay elsewhere is nothing to it", x.soonest(0), 0);
    }

    private static void canNotBe() {
        Due.sentence("Promise 16", "-9.");
        NobodyCarries x = Due.town("p00,0,0,9;p00,0,0,9;t0001,1,999,9;");
        soonest(x, -9);
        x.law(3);
        soonest(x, -9);
        Due.is("-9 is no refusal", x.count(11) + x.count(13), 0);
    }

    private static void overFromTheEnd() {
        Due.sentence("Terms", "OVER: who carry it by that, found from the end backward:");
        NobodyCarries x = Due.town("w01,10;w12,10;w23,10;p02,0,0,9;p23,20,0,9;p00,0,0,0;t2203,1,99,9;");
        soonest(x, 30);
        overs(x, 0, 0, 0, 1);
        Due.sentence("Terms", "from the last PLACE of his way ahead of that at which it can be in time (at its own SOONEST there) and he MAY;");
        NobodyCarries last = Due.town("w01,10;w12,10;w23,10;p03,5,0,9;p01,0,0,9;p12,10,0,9;p00,0,0,0;t3303,1,99,9;");
        soonest(last, 35);
        overs(last, 0, 1, 2, 0);
        NobodyCarries night = Due.town("w01,10;w12,10;w23,10;p03,705,1,9;p02,0,0,9;t0003,1,999,9;");
        night.law(4);
        soonest(night, 735);
        overs(night, 0, 1, 1, 0);
        Due.sentence("Terms", "and so on: how many; the i-th from the beginning on.");
        NobodyCarries order = Due.town("w01,10;w12,10;w23,10;p23,20,0,9;p12,10,0,9;p01,0,0,9;p00,0,0,0;t3303,1,99,9;");
        overs(order, 0, 2, 1, 0);
    }

    private static void overTheLeast() {
        Due.sentence("Terms", "the least PERSON by whom it can come there at that MINUTE,");
        NobodyCarries x = Due.town("w01,10;p00,0,0,0;p01,5,0,9;p01,5,0,9;p01,4,0,0;p01,6,0,9;t0001,1,99,9;");
        soonest(x, 15);
        overs(x, 0, 1);
        NobodyCarries owner = Due.town("w01,10;p01,5,0,9;p01,5,0,9;p01,5,0,9;t0101,1,99,9;");
        overs(owner, 0, 2);
        owner.law(3);
        overs(owner, 0, 0);
        NobodyCarries without = Due.town("w01,10;w21,10;p21,0,0,9;p01,0,0,9;p00,0,0,0;t2201,1,99,9;");
        soonest(without, 10);
        overs(without, 0, 1);
    }

    private static void overHowMany() {
        Due.sentence("Promise 17", "OVER: how many (i -1), the i-th;");
        NobodyCarries x = Due.town(CHAIN, "p06,0,0,9;p00,0,0,0;t1106,1,99,9;t1100,1,99,9;t1160,1,99,9;");
        overs(x, 0, 0, 0, 0, 0, 0, 0);
        Due.is("over(0, 5)", x.over(0, 5), 0);
        Due.sentence("Promise 17", "-9 none such, it can not be.");
        Due.is("over(0, 6)", x.over(0, 6), -9);
        Due.is("over(1, -1)", x.over(1, -1), 0);
        Due.is("over(1, 0)", x.over(1, 0), -9);
        Due.is("over(2, -1)", x.over(2, -1), -9);
        Due.is("over(2, 0)", x.over(2, 0), -9);
    }

    private static void barsOfRoom() {
        Due.sentence("Terms", "BARS: if it can not be, PERSONS (bits) of ROOM enough");
        NobodyCarries x = Due.town("w01,10;p01,0,5,4;p01,0,5,5;p01,0,5,9;p01,0,5,0;t2301,5,99,9;");
        x.law(1);
        Due.is("rooms 5 and 9 for size 5", x.bars(0), 6);
        NobodyCarries six = Due.town("w01,10;p01,0,5,9;p01,0,5,9;p01,0,5,9;p01,0,5,9;p01,0,5,9;p01,0,5,9;", "t0001,9,99,9;");
        six.law(1);
        Due.is("all six", six.bars(0), 63);
        Due.sentence("Promise 18", "BARS (bits).");
        NobodyCarries last = Due.town("w01,10;", "p11,0,5,9;".repeat(5), "p01,0,5,9;t0001,9,99,9;");
        last.law(1);
        Due.is("the sixth", last.bars(0), 32);
    }

    private static void barsEachAlone() {
        Due.sentence("Terms", "of which each, if the law alone always let him, would make it possible;");
        NobodyCarries x = Due.town("w01,10;w12,10;p01,0,5,9;p12,10,5,9;p02,0,5,9;p20,0,5,9;t0002,1,99,9;");
        x.law(1);
        Due.is("0 and 1 but together, 2 alone, 3 comes from there", x.bars(0), 4);
        NobodyCarries helped = Due.town("w01,10;w12,10;p01,0,0,9;p12,10,0,9;p12,9,0,9;t1202,1,99,9;");
        Due.is("1 with 0's help, 2 leaves too early", helped.bars(0), 2);
        NobodyCarries night = Due.town("w01,10;p01,719,0,9;t0001,1,999,9;");
        night.law(4);
        Due.is("always, ahead of night too", night.bars(0), 1);
    }

    private static void barsIfItCanBe() {
        Due.sentence("Terms", "0, if it can be.");
        NobodyCarries x = Due.town("w01,10;p01,0,0,9;p01,50,0,9;t0001,1,20,9;t0000,1,0,9;");
        Due.is("later than BY it still can be", x.bars(0), 0);
        Due.is("it is there", x.bars(1), 0);
        Due.is("law(1)", x.law(1), 0);
        Due.is("bars(0) by KIN of none", x.bars(0), 0);
    }

    private static void never() {
        Due.sentence("Terms", "NEVER: THINGS (bits) that can not be;");
        NobodyCarries x = Due.town("w01,10;p01,0,0,9;p00,0,0,0;", "t0001,1,1,9;".repeat(6));
        Due.is("all six", x.never(), 63);
        x.law(3);
        Due.is("none, though later than BY", x.never(), 0);
        NobodyCarries some = Due.town("w01,10;p01,0,0,9;p00,0,0,0;t1101,1,1,9;t0001,1,1,9;t0000,1,0,9;t1110,1,1,9;");
        Due.is("1 and 3", some.never(), 10);
        Due.sentence("Promise 19", "NEVER (bits).");
        Due.is("of nothing", new NobodyCarries().never(), 0);
        NobodyCarries last = Due.town("w01,10;p01,0,0,9;p00,0,0,0;", "t1101,1,1,9;".repeat(5), "t1110,1,1,9;");
        Due.is("the sixth", last.never(), 32);
    }

    private static void why() {
        Due.sentence("Terms", "WHY of one: 1 nobody who MAY comes by its AT;");
        NobodyCarries x = Due.town(CHAIN, "p13,0,0,9;p22,0,0,0;", "t1103,1,9,9;t1146,1,9,9;t1124,1,9,9;t1110,1,9,9;t1132,1,9,9;t1113,1,9,9;");
        Due.is("by its TO, but not by its AT", x.why(0), 1);
        Due.is("by neither", x.why(1), 1);
        Due.sentence("Terms", "2 (else) nobody who MAY comes to its TO;");
        Due.is("by its AT alone", x.why(2), 2);
        Due.is("by its AT alone, from where he starts", x.why(3), 2);
        Due.sentence("Terms", "4 else;");
        Due.is("the wrong way about", x.why(4), 4);
        Due.sentence("Terms", "0 it can be.");
        Due.is("it can be", x.why(5), 0);
        NobodyCarries there = Due.town("p33,0,0,0;t0000,9,0,9;");
        Due.is("it is there, and nobody comes by", there.why(0), 0);
        NobodyCarries six = Due.town(CHAIN, "p00,0,0,9;".repeat(6), "t0023,1,9,9;t0001,1,9,9;t0010,1,9,9;");
        Due.is("none of six by its AT", six.why(0), 1);
        Due.is("none of six to its TO", six.why(1), 2);
        Due.is("none of six by its AT, all by its TO", six.why(2), 1);
    }

    private static void whyOfWhoMay() {
        Due.sentence("Promise 20", "WHY.");
        NobodyCarries x = Due.town("w01,10;w12,10;p02,0,0,4;p02,0,0,9;p20,0,0,9;p22,0,0,9;t1202,5,99,9;t1302,1,99,9;");
        Due.is("0 has no room, 1 and 2 own it, 3 stays at its TO", x.why(0), 1);
        Due.is("0 brings it", x.why(1), 0);
        NobodyCarries two = Due.town("w01,10;w12,10;p01,0,0,9;p02,0,0,9;t1102,5,99,9;");
        Due.is("the owner alone comes to its TO", two.why(0), 2);
        NobodyCarries early = Due.town("w01,10;p01,709,0,9;t0001,1,999,9;t0010,1,999,9;");
        early.law(4);
        Due.is("by its AT ahead of night", early.why(0), 1);
        Due.is("by its AT at 719", early.why(1), 1);
        NobodyCarries night = Due.town("w01,10;p01,710,0,9;t0010,1,999,9;");
        night.law(4);
        Due.is("by its AT by night, by its TO ahead of it", night.why(0), 2);
        NobodyCarries late = Due.town("w01,10;p01,720,0,9;t0010,1,999,9;");
        late.law(4);
        Due.is("by both by night", late.why(0), 4);
    }
}
