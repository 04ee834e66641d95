import java.util.ArrayList;
import java.util.List;
import java.util.function.Consumer;
import java.util.function.ToIntFunction;

/**
 * Every refused call of every promise, at its edge and at the ends of int. Beside each runs a second object
 * without that call: "nothing changes but how many there were".
 */
final class RefusalEdgesTest {
    private static final int MIN = Integer.MIN_VALUE;
    private static final int MAX = Integer.MAX_VALUE;
    /** Three persons (0 .. 2), two things (0, 1; of 2 and of 0), places 0 .. 3, of which 2 and 3 have no way. */
    private static final String TOWN = "w01,10;p01,100,1,9;p01,50,2,3;p11,0,0,9;t2201,2,200,30;t0001,4,200,20;";

    private static Consumer<NobodyCarries> ahead = x -> { };

    public static void main(String[] args) {
        letters();
        minutes();
        personsAndThings();
        lawAndMay();
        takeGoLay();
        handTarryGive();
        soonestToWhy();
        roundEachPay();
        daysRowOn();
        nobodyAtFirst();
        fullTown();
        callsThatRefuseNothing();
        order();
        numbers();
        counting();
        manyCalls();
        Due.end();
    }

    /** What the next calls are made behind of. */
    private static void behind(Consumer<NobodyCarries> calls) {
        ahead = calls;
    }

    private static NobodyCarries prepared() {
        NobodyCarries x = Due.town(TOWN);
        ahead.accept(x);
        return x;
    }

    private static void answers(String call, ToIntFunction<NobodyCarries> made, int due) {
        NobodyCarries x = prepared();
        int[] had = refusals(x);
        Due.is(call, made.applyAsInt(x), due);
        Due.is(call + " is no refusal", differences(had, refusals(x)), 0);
    }

    private static void refused(String call, ToIntFunction<NobodyCarries> made, int number) {
        NobodyCarries x = prepared();
        NobodyCarries beside = prepared();
        int[] had = refusals(x);
        Due.is(call, made.applyAsInt(x), number);
        int[] has = refusals(x);
        Due.is(call + " is counted", has[-number], had[-number] + 1);
        Due.is(call + " is counted once", differences(had, has), 1);
        Due.is(call + " changes nothing", allOf(x).equals(allOf(beside)) ? 1 : 0, 1);
    }

    private static int[] refusals(NobodyCarries x) {
        int[] all = new int[7];
        for (int i = 1; i < all.length; i++) {
            all[i] = x.count(10 + i);
        }
        return all;
    }

    private static int differences(int[] had, int[] has) {
        int sum = 0;
        for (int i = 1; i < had.length; i++) {
            sum += Math.abs(has[i] - had[i]);
        }
        return sum;
    }

    /** All that can be asked, and at last what uses up the row, the letters and what there is. */
    private static List<Integer> allOf(NobodyCarries x) {
        List<Integer> all = new ArrayList<>();
        look(x, all);
        all.add(x.judge());
        all.add(x.town());
        all.add(x.on());
        look(x, all);
        return all;
    }

    private static void look(NobodyCarries x, List<Integer> all) {
        for (int what = 0; what <= 5; what++) {
            all.add(x.count(what));
        }
        for (int i = 0; i < 16; i++) {
            all.add(x.minutes(i / 4, i % 4));
        }
        for (int person = 0; person < 3; person++) {
            for (int what = 0; what <= 7; what++) {
                all.add(x.person(person, what));
            }
        }
        for (int thing = 0; thing < 2; thing++) {
            for (int what = 0; what <= 9; what++) {
                all.add(x.thing(thing, what));
            }
        }
        all.add(x.minutes(5, 6));
        int law = x.law(0);
        all.add(law);
        all.add(x.law(law));
        all.add(x.soonest(0));
        all.add(x.there());
    }

    private static void letters() {
        Due.sentence("Promise 2", "A letter (0 .. 255) comes: how many there are.");
        behind(x -> { });
        answers("letter(0)", x -> x.letter(0), 1);
        answers("letter(255)", x -> x.letter(255), 1);
        Due.sentence("Promise 2", "-4;");
        refused("letter(-1)", x -> x.letter(-1), -4);
        refused("letter(MIN)", x -> x.letter(MIN), -4);
        Due.sentence("Promise 2", "-6 (255");
        refused("letter(256)", x -> x.letter(256), -6);
        refused("letter(MAX)", x -> x.letter(MAX), -6);
        Due.sentence("Promise 2", "64, too).");
        behind(x -> manyLetters(x, 63));
        answers("letter 64", x -> x.letter(';'), 64);
        behind(x -> manyLetters(x, 64));
        refused("letter 65", x -> x.letter(';'), -6);
        refused("letter 65 that is 0", x -> x.letter(0), -6);
        refused("letter 65 that is 256", x -> x.letter(256), -6);
        refused("letter 65 that is below", x -> x.letter(-1), -4);
    }

    private static void manyLetters(NobodyCarries x, int many) {
        String text = "t2201,2,200,30;t0001,4,200,20;n7;n7;w56,1;w56,2;w56,3;w56,10;n7;";
        for (int i = 0; i < many; i++) {
            x.letter(text.charAt(i));
        }
    }

    private static void minutes() {
        behind(x -> { });
        Due.sentence("Promise 4", "-1 either.");
        answers("minutes(3, 3)", x -> x.minutes(3, 3), 0);
        refused("minutes(-1, 0)", x -> x.minutes(-1, 0), -1);
        refused("minutes(0, -1)", x -> x.minutes(0, -1), -1);
        refused("minutes(4, 0)", x -> x.minutes(4, 0), -1);
        refused("minutes(0, 4)", x -> x.minutes(0, 4), -1);
        refused("minutes(4, 4)", x -> x.minutes(4, 4), -1);
        refused("minutes(MIN, 0)", x -> x.minutes(MIN, 0), -1);
        refused("minutes(0, MIN)", x -> x.minutes(0, MIN), -1);
        refused("minutes(MAX, 0)", x -> x.minutes(MAX, 0), -1);
        refused("minutes(0, MAX)", x -> x.minutes(0, MAX), -1);
        Due.sentence("Promise 4", "-9 none.");
        answers("minutes(0, 3)", x -> x.minutes(0, 3), -9);
    }

    private static void personsAndThings() {
        behind(x -> { });
        Due.sentence("Promise 5", "-1;");
        answers("person(2, 0)", x -> x.person(2, 0), 1);
        refused("person(3, 0)", x -> x.person(3, 0), -1);
        refused("person(-1, 0)", x -> x.person(-1, 0), -1);
        refused("person(MIN, 0)", x -> x.person(MIN, 0), -1);
        refused("person(MAX, 0)", x -> x.person(MAX, 0), -1);
        Due.sentence("Promise 5", "-2.");
        answers("person(0, 7)", x -> x.person(0, 7), 0);
        refused("person(0, 8)", x -> x.person(0, 8), -2);
        refused("person(0, -1)", x -> x.person(0, -1), -2);
        refused("person(0, MIN)", x -> x.person(0, MIN), -2);
        refused("person(0, MAX)", x -> x.person(0, MAX), -2);
        Due.sentence("Promise 6", "-1;");
        answers("thing(1, 0)", x -> x.thing(1, 0), 0);
        refused("thing(2, 0)", x -> x.thing(2, 0), -1);
        refused("thing(-1, 0)", x -> x.thing(-1, 0), -1);
        refused("thing(MIN, 0)", x -> x.thing(MIN, 0), -1);
        refused("thing(MAX, 0)", x -> x.thing(MAX, 0), -1);
        Due.sentence("Promise 6", "-2.");
        answers("thing(0, 9), where -9 is an answer", x -> x.thing(0, 9), -9);
        refused("thing(0, 10)", x -> x.thing(0, 10), -2);
        refused("thing(0, -1)", x -> x.thing(0, -1), -2);
        refused("thing(0, MIN)", x -> x.thing(0, MIN), -2);
        refused("thing(0, MAX)", x -> x.thing(0, MAX), -2);
    }

    private static void lawAndMay() {
        behind(x -> x.law(3));
        Due.sentence("Promise 7", "The LAW: what it was.");
        answers("law(0)", x -> x.law(0), 3);
        answers("law(4)", x -> x.law(4), 3);
        Due.sentence("Promise 7", "-2.");
        refused("law(-1)", x -> x.law(-1), -2);
        refused("law(5)", x -> x.law(5), -2);
        refused("law(MIN)", x -> x.law(MIN), -2);
        refused("law(MAX)", x -> x.law(MAX), -2);
        Due.sentence("Promise 8", "-1 either;");
        answers("may(2, 1, 0)", x -> x.may(2, 1, 0), 1);
        refused("may(-1, 0, 0)", x -> x.may(-1, 0, 0), -1);
        refused("may(3, 0, 0)", x -> x.may(3, 0, 0), -1);
        refused("may(0, -1, 0)", x -> x.may(0, -1, 0), -1);
        refused("may(0, 2, 0)", x -> x.may(0, 2, 0), -1);
        refused("may(MIN, 0, 0)", x -> x.may(MIN, 0, 0), -1);
        refused("may(0, MAX, 0)", x -> x.may(0, MAX, 0), -1);
        Due.sentence("Promise 8", "-4;");
        answers("may(0, 0, 0)", x -> x.may(0, 0, 0), 1);
        refused("may(0, 0, -1)", x -> x.may(0, 0, -1), -4);
        refused("may(0, 0, MIN)", x -> x.may(0, 0, MIN), -4);
        Due.sentence("Promise 8", "-6 9999.");
        answers("may(0, 0, 9999)", x -> x.may(0, 0, 9999), 1);
        refused("may(0, 0, 10000)", x -> x.may(0, 0, 10000), -6);
        refused("may(0, 0, MAX)", x -> x.may(0, 0, MAX), -6);
    }

    private static void takeGoLay() {
        behind(x -> { });
        Due.sentence("Promise 9", "-1 either;");
        refused("take(-1, 0)", x -> x.take(-1, 0), -1);
        refused("take(3, 0)", x -> x.take(3, 0), -1);
        refused("take(0, -1)", x -> x.take(0, -1), -1);
        refused("take(0, 2)", x -> x.take(0, 2), -1);
        refused("take(MIN, 0)", x -> x.take(MIN, 0), -1);
        refused("take(0, MAX)", x -> x.take(0, MAX), -1);
        Due.sentence("Promise 9", "-3 it does not lie there,");
        refused("take(2, 1) from another place", x -> x.take(2, 1), -3);
        behind(x -> x.take(0, 0));
        refused("take(0, 0) that he carries", x -> x.take(0, 0), -3);
        refused("take(1, 0) that another carries", x -> x.take(1, 0), -3);
        Due.sentence("Promise 9", "he MAY not (at CLOCK then),");
        refused("take(0, 1) that is his", x -> x.take(0, 1), -3);
        behind(x -> layLater(x));
        refused("take(0, 1) that is his and was laid later: CLOCK stays", x -> x.take(0, 1), -3);
        Due.sentence("Promise 9", "no ROOM.");
        behind(x -> { });
        refused("take(1, 1): size 4 in room 3", x -> x.take(1, 1), -3);
        behind(x -> {
            x.law(3);
            Due.tell(x, "t2200,2,0,0;");
            x.take(1, 0);
        });
        refused("take(1, 2): sizes 2 and 2 in room 3", x -> x.take(1, 2), -3);
        goLay();
    }

    /** Person 2 takes thing 1 up and lays it down where it was, at 610. */
    private static void layLater(NobodyCarries x) {
        Due.is("go(2, 0)", x.go(2, 0), 10);
        Due.is("take(2, 1)", x.take(2, 1), 10);
        Due.is("tarry(2, 600)", x.tarry(2, 600), 610);
        Due.is("lay(2, 1)", x.lay(2, 1), 610);
    }

    private static void goLay() {
        behind(x -> { });
        Due.sentence("Promise 10", "-1 either;");
        refused("go(-1, 0)", x -> x.go(-1, 0), -1);
        refused("go(3, 0)", x -> x.go(3, 0), -1);
        refused("go(0, -1)", x -> x.go(0, -1), -1);
        refused("go(0, 4)", x -> x.go(0, 4), -1);
        refused("go(MAX, 0)", x -> x.go(MAX, 0), -1);
        refused("go(0, MIN)", x -> x.go(0, MIN), -1);
        Due.sentence("Promise 10", "-3 it can not be come to,");
        refused("go(0, 3)", x -> x.go(0, 3), -3);
        Due.sentence("Promise 10", "or he MAY not carry on something as he goes.");
        behind(x -> {
            x.law(3);
            x.take(0, 0);
            x.take(0, 1);
            x.law(0);
        });
        refused("go(0, 1) with his own", x -> x.go(0, 1), -3);
        refused("go(0, 0) with his own", x -> x.go(0, 0), -3);
        Due.sentence("Promise 11", "-1 either;");
        refused("lay(-1, 0)", x -> x.lay(-1, 0), -1);
        refused("lay(3, 0)", x -> x.lay(3, 0), -1);
        refused("lay(0, -1)", x -> x.lay(0, -1), -1);
        refused("lay(0, 2)", x -> x.lay(0, 2), -1);
        refused("lay(MIN, 0)", x -> x.lay(MIN, 0), -1);
        refused("lay(0, MAX)", x -> x.lay(0, MAX), -1);
        Due.sentence("Promise 11", "-3 he does not carry it.");
        refused("lay(1, 0) that another carries", x -> x.lay(1, 0), -3);
        answers("lay(0, 1), though it is his", x -> x.lay(0, 1), 100);
        behind(x -> { });
        refused("lay(0, 0) that lies there", x -> x.lay(0, 0), -3);
    }

    private static void handTarryGive() {
        behind(x -> x.take(0, 0));
        Due.sentence("Promise 12", "-1 any");
        refused("hand(-1, 1, 0)", x -> x.hand(-1, 1, 0), -1);
        refused("hand(3, 1, 0)", x -> x.hand(3, 1, 0), -1);
        refused("hand(0, -1, 0)", x -> x.hand(0, -1, 0), -1);
        refused("hand(0, 3, 0)", x -> x.hand(0, 3, 0), -1);
        refused("hand(0, 1, -1)", x -> x.hand(0, 1, -1), -1);
        refused("hand(0, 1, 2)", x -> x.hand(0, 1, 2), -1);
        refused("hand(MIN, 1, 0)", x -> x.hand(MIN, 1, 0), -1);
        refused("hand(0, MAX, 0)", x -> x.hand(0, MAX, 0), -1);
        refused("hand(0, 1, MAX)", x -> x.hand(0, 1, MAX), -1);
        Due.sentence("Promise 12", "(one twice, too);");
        refused("hand(0, 0, 0) that he carries", x -> x.hand(0, 0, 0), -1);
        refused("hand(1, 1, 0)", x -> x.hand(1, 1, 0), -1);
        Due.sentence("Promise 12", "-3 he does not carry it,");
        refused("hand(1, 0, 0) by whom it is not carried", x -> x.hand(1, 0, 0), -3);
        refused("hand(0, 1, 1) that lies there", x -> x.hand(0, 1, 1), -3);
        Due.sentence("Promise 12", "another PLACE,");
        behind(x -> {
            x.law(3);
            x.take(0, 0);
        });
        refused("hand(0, 2, 0)", x -> x.hand(0, 2, 0), -3);
        Due.sentence("Promise 12", "the other MAY not (at CLOCK then),");
        behind(x -> {
            x.take(0, 0);
            x.go(2, 0);
        });
        refused("hand(0, 2, 0) to its owner: both CLOCKS stay", x -> x.hand(0, 2, 0), -3);
        Due.sentence("Promise 12", "no ROOM.");
        behind(x -> {
            x.law(3);
            x.take(0, 1);
        });
        refused("hand(0, 1, 1): size 4 to room 3", x -> x.hand(0, 1, 1), -3);
        behind(x -> {
            x.law(3);
            Due.tell(x, "t2200,2,0,0;");
            x.take(0, 2);
            x.take(1, 0);
        });
        refused("hand(0, 1, 2): sizes 2 and 2 to room 3", x -> x.hand(0, 1, 2), -3);
        tarryGive();
    }

    private static void tarryGive() {
        behind(x -> { });
        Due.sentence("Promise 13", "-1;");
        refused("tarry(-1, 1)", x -> x.tarry(-1, 1), -1);
        refused("tarry(3, 1)", x -> x.tarry(3, 1), -1);
        refused("tarry(MIN, 1)", x -> x.tarry(MIN, 1), -1);
        refused("tarry(MAX, 1)", x -> x.tarry(MAX, 1), -1);
        Due.sentence("Promise 13", "-4 below 1;");
        answers("tarry(0, 1)", x -> x.tarry(0, 1), 101);
        refused("tarry(0, 0)", x -> x.tarry(0, 0), -4);
        refused("tarry(0, -1)", x -> x.tarry(0, -1), -4);
        refused("tarry(0, MIN)", x -> x.tarry(0, MIN), -4);
        Due.sentence("Promise 13", "-6 600.");
        answers("tarry(0, 600)", x -> x.tarry(0, 600), 700);
        refused("tarry(0, 601)", x -> x.tarry(0, 601), -6);
        refused("tarry(0, MAX)", x -> x.tarry(0, MAX), -6);
        Due.sentence("Promise 14", "-1 either;");
        refused("give(-1, 0)", x -> x.give(-1, 0), -1);
        refused("give(3, 0)", x -> x.give(3, 0), -1);
        refused("give(0, -1)", x -> x.give(0, -1), -1);
        refused("give(0, 2)", x -> x.give(0, 2), -1);
        refused("give(MIN, 0)", x -> x.give(MIN, 0), -1);
        refused("give(0, MAX)", x -> x.give(0, MAX), -1);
        Due.sentence("Promise 14", "-3 he is no owner.");
        answers("give(0, 1)", x -> x.give(0, 1), 100);
        refused("give(1, 1)", x -> x.give(1, 1), -3);
        behind(x -> {
            x.give(0, 1);
            x.take(2, 0);
        });
        refused("give(2, 1)", x -> x.give(2, 1), -3);
        behind(x -> x.take(0, 0));
        refused("give(0, 0) who but carries it", x -> x.give(0, 0), -3);
    }

    private static void soonestToWhy() {
        behind(x -> { });
        Due.sentence("Promise 16", "-1.");
        answers("soonest(1)", x -> x.soonest(1), -9);
        refused("soonest(-1)", x -> x.soonest(-1), -1);
        refused("soonest(2)", x -> x.soonest(2), -1);
        refused("soonest(MIN)", x -> x.soonest(MIN), -1);
        refused("soonest(MAX)", x -> x.soonest(MAX), -1);
        Due.sentence("Promise 17", "-1;");
        refused("over(-1, 0)", x -> x.over(-1, 0), -1);
        refused("over(2, 0)", x -> x.over(2, 0), -1);
        refused("over(MIN, 0)", x -> x.over(MIN, 0), -1);
        refused("over(MAX, 0)", x -> x.over(MAX, 0), -1);
        Due.sentence("Promise 17", "-4.");
        answers("over(0, -1)", x -> x.over(0, -1), 1);
        refused("over(0, -2)", x -> x.over(0, -2), -4);
        refused("over(0, MIN)", x -> x.over(0, MIN), -4);
        refused("over(1, -2) of one that can not be", x -> x.over(1, -2), -4);
        Due.sentence("Promise 17", "-9 none such, it can not be.");
        answers("over(0, 0)", x -> x.over(0, 0), 1);
        answers("over(0, 1)", x -> x.over(0, 1), -9);
        answers("over(0, MAX)", x -> x.over(0, MAX), -9);
        answers("over(1, -1)", x -> x.over(1, -1), -9);
        answers("over(1, 0)", x -> x.over(1, 0), -9);
        Due.sentence("Promise 18", "-1.");
        answers("bars(1)", x -> x.bars(1), 1);
        refused("bars(-1)", x -> x.bars(-1), -1);
        refused("bars(2)", x -> x.bars(2), -1);
        refused("bars(MIN)", x -> x.bars(MIN), -1);
        refused("bars(MAX)", x -> x.bars(MAX), -1);
        Due.sentence("Promise 20", "-1.");
        answers("why(1)", x -> x.why(1), 1);
        refused("why(-1)", x -> x.why(-1), -1);
        refused("why(2)", x -> x.why(2), -1);
        refused("why(MIN)", x -> x.why(MIN), -1);
        refused("why(MAX)", x -> x.why(MAX), -1);
    }

    private static void roundEachPay() {
        behind(x -> { });
        Due.sentence("Promise 21", "-1 either;");
        answers("round(1, 0, 0)", x -> x.round(1, 0, 0), 60);
        refused("round(-1, 0, 0)", x -> x.round(-1, 0, 0), -1);
        refused("round(3, 0, 0)", x -> x.round(3, 0, 0), -1);
        refused("round(0, -1, 0)", x -> x.round(0, -1, 0), -1);
        refused("round(0, 2, 0)", x -> x.round(0, 2, 0), -1);
        refused("round(MIN, 0, 0)", x -> x.round(MIN, 0, 0), -1);
        refused("round(0, MAX, 0)", x -> x.round(0, MAX, 0), -1);
        Due.sentence("Promise 21", "-2.");
        answers("round(1, 0, 1)", x -> x.round(1, 0, 1), 0);
        refused("round(0, 0, -1)", x -> x.round(0, 0, -1), -2);
        refused("round(0, 0, 2)", x -> x.round(0, 0, 2), -2);
        refused("round(0, 0, MIN)", x -> x.round(0, 0, MIN), -2);
        refused("round(0, 0, MAX)", x -> x.round(0, 0, MAX), -2);
        refused("round(0, 1, 2) where there is none", x -> x.round(0, 1, 2), -2);
        Due.sentence("Promise 22", "-1.");
        answers("each(-1)", x -> x.each(-1), 30);
        answers("each(2)", x -> x.each(2), -9);
        refused("each(-2)", x -> x.each(-2), -1);
        refused("each(3)", x -> x.each(3), -1);
        refused("each(MIN)", x -> x.each(MIN), -1);
        refused("each(MAX)", x -> x.each(MAX), -1);
        Due.sentence("Promise 23", "-1.");
        answers("pay(2)", x -> x.pay(2), 0);
        refused("pay(-1)", x -> x.pay(-1), -1);
        refused("pay(3)", x -> x.pay(3), -1);
        refused("pay(MIN)", x -> x.pay(MIN), -1);
        refused("pay(MAX)", x -> x.pay(MAX), -1);
    }

    private static void daysRowOn() {
        behind(x -> { });
        Due.sentence("Promise 27", "-4;");
        refused("days(0, 1)", x -> x.days(0, 1), -4);
        refused("days(-1, 1)", x -> x.days(-1, 1), -4);
        refused("days(MIN, 1)", x -> x.days(MIN, 1), -4);
        Due.sentence("Promise 27", "-6 14.");
        refused("days(15, 1)", x -> x.days(15, 1), -6);
        refused("days(MAX, 1)", x -> x.days(MAX, 1), -6);
        Due.sentence("Promise 28", "A PERSON more of the ROW (0 .. 9): how many.");
        answers("row(0)", x -> x.row(0), 1);
        answers("row(9)", x -> x.row(9), 1);
        answers("row(5), though there is no such person", x -> x.row(5), 1);
        Due.sentence("Promise 28", "-4;");
        refused("row(-1)", x -> x.row(-1), -4);
        refused("row(MIN)", x -> x.row(MIN), -4);
        Due.sentence("Promise 28", "-6 (9;");
        refused("row(10)", x -> x.row(10), -6);
        refused("row(MAX)", x -> x.row(MAX), -6);
        Due.sentence("Promise 28", "6, too).");
        behind(x -> manyOfRow(x, 5));
        answers("row 6", x -> x.row(0), 6);
        behind(x -> manyOfRow(x, 6));
        refused("row 7", x -> x.row(0), -6);
        refused("row 7 that is 10", x -> x.row(10), -6);
        refused("row 7 that is below", x -> x.row(-1), -4);
        Due.sentence("Promise 31", "-3 there is none.");
        behind(x -> { });
        refused("on()", x -> x.on(), -3);
        behind(x -> x.image());
        answers("on()", x -> x.on(), 2);
    }

    private static void manyOfRow(NobodyCarries x, int many) {
        for (int i = 1; i <= many; i++) {
            Due.is("row " + i, x.row(9), i);
        }
    }

    private static void nobodyAtFirst() {
        Due.sentence("Promise 1", "Four PLACES, nobody.");
        NobodyCarries x = new NobodyCarries();
        int[] answers = {
            x.person(0, 0), x.thing(0, 0), x.may(0, 0, 0), x.take(0, 0), x.go(0, 0), x.lay(0, 0), x.hand(0, 1, 0),
            x.tarry(0, 1), x.give(0, 0), x.soonest(0), x.over(0, 0), x.bars(0), x.why(0), x.round(0, 0, 0),
            x.each(0), x.pay(0)};
        for (int i = 0; i < answers.length; i++) {
            Due.is("call " + i + " on a new object", answers[i], -1);
        }
        Due.is("refusals -1", x.count(11), answers.length);
        Due.is("places", x.count(0), 4);
        Due.is("minutes(0, 3)", x.minutes(0, 3), -9);
        Due.is("minutes(0, 4)", x.minutes(0, 4), -1);
        Due.is("persons", x.count(1), 0);
        Due.is("things", x.count(2), 0);
    }

    private static void fullTown() {
        Due.sentence("Terms", "-1 NOBODY: no such PLACE, PERSON, THING.");
        NobodyCarries x = Due.town("n7;p66,0,0,0;p66,0,0,0;p66,0,0,0;p66,0,0,0;p66,0,0,0;p66,7,0,9;",
                "t0066,1,1,1;t0066,1,1,1;t0066,1,1,1;t0066,1,1,1;t0066,1,1,1;t0066,1,8,1;");
        Due.is("minutes(6, 6)", x.minutes(6, 6), 0);
        Due.is("minutes(7, 6)", x.minutes(7, 6), -1);
        Due.is("person(5, 2)", x.person(5, 2), 7);
        Due.is("person(6, 2)", x.person(6, 2), -1);
        Due.is("thing(5, 5)", x.thing(5, 5), 8);
        Due.is("thing(6, 5)", x.thing(6, 5), -1);
        Due.is("may(5, 5, 0)", x.may(5, 5, 0), 1);
        Due.is("may(6, 5, 0)", x.may(6, 5, 0), -1);
        Due.is("may(5, 6, 0)", x.may(5, 6, 0), -1);
        Due.is("take(6, 5)", x.take(6, 5), -1);
        Due.is("take(5, 6)", x.take(5, 6), -1);
        Due.is("take(5, 5)", x.take(5, 5), 7);
        Due.is("go(5, 6)", x.go(5, 6), 7);
        Due.is("go(5, 7)", x.go(5, 7), -1);
        Due.is("thing(5, 7): 10 and the person", x.thing(5, 7), 15);
        Due.is("person(5, 7): the bit", x.person(5, 7), 32);
        Due.is("hand(5, 6, 5)", x.hand(5, 6, 5), -1);
        Due.is("lay(5, 5)", x.lay(5, 5), 7);
        Due.is("there(), all six", x.there(), 6);
        Due.is("each(6)", x.each(6), -1);
        Due.is("pay(6)", x.pay(6), -1);
        Due.is("soonest(6)", x.soonest(6), -1);
        Due.is("round(5, 6, 0)", x.round(5, 6, 0), -1);
        Due.is("round(6, 5, 0)", x.round(6, 5, 0), -1);
    }

    private static void callsThatRefuseNothing() {
        behind(x -> { });
        Due.sentence("Promise 3", "the FAULT (nothing is counted).");
        answers("town() without letters", x -> x.town(), -1000);
        answers("a fault of kind 2", x -> Due.tell(x, "n1;"), -2000);
        Due.sentence("Promises 15, 19, 24 to 26, 29, 30", "no refusal is told there");
        answers("there()", x -> x.there(), 0);
        answers("never()", x -> x.never(), 2);
        answers("fewest()", x -> x.fewest(), 1);
        answers("beside()", x -> x.beside(), 999 - 110);
        answers("houses()", x -> x.houses(), 2);
        answers("judge()", x -> x.judge(), 0);
        answers("image()", x -> x.image(), 2);
        Due.sentence("Promise 32", "-9 for another what.");
        int[] others = {-1, 6, 7, 8, 9, 10, 17, MIN, MAX};
        for (int what : others) {
            answers("count(" + what + ")", x -> x.count(what), -9);
        }
    }

    private static void order() {
        Due.sentence("Terms", "the first that fits in the order in which it tells them");
        behind(x -> x.take(0, 0));
        refused("person(3, 8): -1 ahead of -2", x -> x.person(3, 8), -1);
        refused("thing(2, 10): -1 ahead of -2", x -> x.thing(2, 10), -1);
        refused("may(3, 0, -1): -1 ahead of -4", x -> x.may(3, 0, -1), -1);
        refused("may(0, 2, 10000): -1 ahead of -6", x -> x.may(0, 2, 10000), -1);
        refused("take(3, 0): -1 ahead of -3", x -> x.take(3, 0), -1);
        refused("go(3, 3): -1 ahead of -3", x -> x.go(3, 3), -1);
        refused("lay(1, 2): -1 ahead of -3", x -> x.lay(1, 2), -1);
        refused("hand(1, 1, 0): -1 ahead of -3", x -> x.hand(1, 1, 0), -1);
        refused("tarry(3, 0): -1 ahead of -4", x -> x.tarry(3, 0), -1);
        refused("tarry(3, 601): -1 ahead of -6", x -> x.tarry(3, 601), -1);
        refused("give(1, 2): -1 ahead of -3", x -> x.give(1, 2), -1);
        refused("over(2, -2): -1 ahead of -4", x -> x.over(2, -2), -1);
        refused("round(3, 0, 2): -1 ahead of -2", x -> x.round(3, 0, 2), -1);
        refused("round(0, 2, 2): -1 ahead of -2", x -> x.round(0, 2, 2), -1);
        behind(x -> manyLetters(x, 64));
        refused("letter(-1): -4 ahead of -6", x -> x.letter(-1), -4);
        behind(x -> manyOfRow(x, 6));
        refused("row(-1): -4 ahead of -6", x -> x.row(-1), -4);
    }

    private static void numbers() {
        behind(x -> { });
        Due.sentence("Terms", "-2 OTHER: what, LAW.");
        refused("person(0, 8)", x -> x.person(0, 8), -2);
        refused("round(0, 0, 2)", x -> x.round(0, 0, 2), -2);
        refused("law(5)", x -> x.law(5), -2);
        Due.sentence("Terms", "-3 STATE: it is not as it must be.");
        refused("lay(0, 0)", x -> x.lay(0, 0), -3);
        refused("on()", x -> x.on(), -3);
        Due.sentence("Terms", "-4 BELOW: a number below the least.");
        refused("letter(-1)", x -> x.letter(-1), -4);
        refused("tarry(0, 0)", x -> x.tarry(0, 0), -4);
        refused("days(0, 0)", x -> x.days(0, 0), -4);
        Due.sentence("Terms", "-6 ROOM: a number above the greatest, no room.");
        refused("row(10)", x -> x.row(10), -6);
        refused("tarry(0, 601)", x -> x.tarry(0, 601), -6);
        behind(x -> manyOfRow(x, 6));
        refused("row 7", x -> x.row(0), -6);
    }

    private static void manyCalls() {
        Due.sentence("What it is", "An object is used for at most 512 calls after it has been made;");
        NobodyCarries x = new NobodyCarries();
        for (int i = 1; i < 512; i++) {
            x.law(-1);
        }
        Due.is("call 512", x.count(12), 511);
        NobodyCarries late = new NobodyCarries();
        String text = "p00,720,0,0;";
        for (int i = 0; i < text.length(); i++) {
            late.letter(text.charAt(i));
        }
        late.town();
        for (int i = text.length() + 2; i < 512; i++) {
            late.tarry(0, 600);
        }
        Due.is("call 512", late.person(0, 6), 720 + 600 * (511 - text.length() - 1));
    }

    private static void counting() {
        Due.sentence("Promise 32", "11 .. 16 REFUSALS -1 .. -6.");
        NobodyCarries x = Due.town(TOWN);
        for (int times = 1; times <= 5; times++) {
            x.why(2);
            x.law(5);
            x.on();
            x.row(-1);
            x.days(15, 0);
            int[] due = {times, times, times, times, 0, times};
            for (int i = 0; i < due.length; i++) {
                Due.is("count(" + (11 + i) + ")", x.count(11 + i), due[i]);
            }
        }
    }
}
