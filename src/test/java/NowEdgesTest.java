/** Terms, the laws and what is now, and promises 7 to 15: every edge that they name. */
final class NowEdgesTest {
    private static final int OWN = 0;
    private static final int KIN = 1;
    private static final int HOUR = 2;
    private static final int NONE = 3;
    private static final int NIGHT = 4;

    public static void main(String[] args) {
        lawOwn();
        lawKin();
        lawHour();
        lawNone();
        lawNight();
        sizeAndRoom();
        lawStays();
        clockAtFirst();
        roomTogether();
        takeWhereHeIs();
        takeNotAhead();
        takeAtThatClock();
        goByLeast();
        goWithAll();
        goAsHeSetsOut();
        lay();
        handLaterClock();
        handAtThatClock();
        tarry();
        give();
        there();
        clockThen();
        Due.end();
    }

    private static void mays(NobodyCarries x, int thing, int minute, int... due) {
        for (int p = 0; p < due.length; p++) {
            Due.is("may(" + p + ", " + thing + ", " + minute + ")", x.may(p, thing, minute), due[p]);
        }
    }

    /** 0 and 1 own thing 0, of kin 1 and 2; 2 and 3 are of kin 1 and 2, 4 and 5 of none; 4 owns thing 1. */
    private static NobodyCarries families(int law) {
        NobodyCarries x = Due.town("p00,0,1,9;p00,0,2,9;p00,0,1,9;p00,0,2,9;p00,0,0,9;p00,0,0,9;",
                "t0100,9,99,1;t4400,9,99,1;");
        Due.is("law(" + law + ")", x.law(law), OWN);
        return x;
    }

    private static void lawOwn() {
        Due.sentence("Terms", "0 OWN under LAW: if he does not own it.");
        NobodyCarries x = families(OWN);
        int[] minutes = {0, 719, 720, 9999};
        for (int minute : minutes) {
            mays(x, 0, minute, 0, 0, 1, 1, 1, 1);
            mays(x, 1, minute, 1, 1, 1, 1, 0, 1);
        }
    }

    private static void lawKin() {
        Due.sentence("Terms", "1 KIN under OWN: nor has the KIN of an owner");
        NobodyCarries x = families(KIN);
        int[] minutes = {0, 719, 720, 9999};
        for (int minute : minutes) {
            mays(x, 0, minute, 0, 0, 0, 0, 1, 1);
        }
        Due.sentence("Terms", "(KIN 0 is none's)");
        mays(x, 1, 0, 1, 1, 1, 1, 0, 1);
        NobodyCarries mixed = Due.town("p00,0,0,9;p00,0,9,9;p00,0,0,9;p00,0,9,9;t0100,1,1,1;t1000,1,1,1;");
        Due.is("law(1)", mixed.law(KIN), OWN);
        mays(mixed, 0, 0, 0, 0, 1, 0);
        mays(mixed, 1, 0, 0, 0, 1, 0);
    }

    private static void lawHour() {
        Due.sentence("Terms", "2 HOUR under OWN: as OWN;");
        NobodyCarries x = families(HOUR);
        mays(x, 0, 0, 0, 0, 1, 1, 1, 1);
        mays(x, 0, 9999, 0, 0, 1, 1, 1, 1);
        Due.sentence("Terms", "owners, too, from the MINUTE at which it was GIVEN latest on, for 60 minutes.");
        Due.is("give(0, 0) at 0", x.give(0, 0), 0);
        mays(x, 0, 0, 1, 1, 1, 1, 1, 1);
        mays(x, 0, 59, 1, 1, 1, 1, 1, 1);
        mays(x, 0, 60, 0, 0, 1, 1, 1, 1);
        mays(x, 1, 0, 1, 1, 1, 1, 0, 1);
        Due.is("tarry(1, 600)", x.tarry(1, 600), 600);
        Due.is("give(1, 0) at 600", x.give(1, 0), 600);
        mays(x, 0, 0, 0, 0, 1, 1, 1, 1);
        mays(x, 0, 599, 0, 0, 1, 1, 1, 1);
        mays(x, 0, 600, 1, 1, 1, 1, 1, 1);
        mays(x, 0, 659, 1, 1, 1, 1, 1, 1);
        mays(x, 0, 660, 0, 0, 1, 1, 1, 1);
        int[] others = {OWN, KIN, NIGHT};
        for (int law : others) {
            x.law(law);
            Due.is("given is nothing by law " + law, x.may(0, 0, 600), 0);
        }
    }

    private static void lawNone() {
        Due.sentence("Terms", "3 NONE under LAW: always.");
        NobodyCarries x = families(NONE);
        mays(x, 0, 0, 1, 1, 1, 1, 1, 1);
        mays(x, 1, 9999, 1, 1, 1, 1, 1, 1);
    }

    private static void lawNight() {
        Due.sentence("Terms", "4 NIGHT under KIN: as KIN till MINUTE 720, as NONE from then on.");
        NobodyCarries x = families(NIGHT);
        mays(x, 0, 0, 0, 0, 0, 0, 1, 1);
        mays(x, 0, 719, 0, 0, 0, 0, 1, 1);
        mays(x, 0, 720, 1, 1, 1, 1, 1, 1);
        mays(x, 0, 9999, 1, 1, 1, 1, 1, 1);
        mays(x, 1, 719, 1, 1, 1, 1, 0, 1);
    }

    private static void sizeAndRoom() {
        Due.sentence("Terms", "And its SIZE must be no more than his ROOM.");
        NobodyCarries x = Due.town("p00,0,0,0;p00,0,0,1;p00,0,0,8;p00,0,0,9;p00,0,0,9;t4400,1,1,1;t4400,9,1,1;");
        for (int law = 0; law <= 4; law++) {
            Due.is("law(" + law + ")", x.law(law), Math.max(0, law - 1));
            mays(x, 0, 0, 0, 1, 1, 1);
            mays(x, 1, 0, 0, 0, 0, 1);
            mays(x, 1, 720, 0, 0, 0, 1);
        }
        Due.sentence("Promise 8", "MAY (ROOM, too): 1, 0.");
        Due.is("law(3)", x.law(NONE), NIGHT);
        Due.is("take(3, 1)", x.take(3, 1), 0);
        Due.is("what he carries is nothing to MAY", x.may(3, 0, 0), 1);
    }

    private static void lawStays() {
        Due.sentence("Promise 7", "The LAW: what it was.");
        NobodyCarries x = new NobodyCarries();
        int was = 0;
        for (int law = 4; law >= 0; law--) {
            Due.is("law(" + law + ")", x.law(law), was);
            was = law;
        }
        Due.is("law(4)", x.law(4), 0);
        Due.is("a town more", Due.tell(x, "n5;"), 1);
        Due.is("law(4) behind a town", x.law(4), 4);
    }

    private static void clockAtFirst() {
        Due.sentence("Terms", "with a CLOCK (FROM at first)");
        NobodyCarries x = Due.town("p10,720,0,9;p20,0,0,9;");
        Due.is("CLOCK 720", x.person(0, 6), 720);
        Due.is("CLOCK 0", x.person(1, 6), 0);
        Due.is("AT 1", x.person(0, 5), 1);
        Due.is("AT 2", x.person(1, 5), 2);
    }

    private static void roomTogether() {
        Due.sentence("Terms", "carries THINGS (no more SIZE than ROOM together)");
        NobodyCarries x = Due.town("p00,0,0,9;p00,0,0,9;", "t1100,4,1,1;t1100,5,1,1;t1100,1,1,1;");
        Due.is("take(0, 0): 4", x.take(0, 0), 0);
        Due.is("take(0, 1): 9", x.take(0, 1), 0);
        Due.is("take(0, 2): 10", x.take(0, 2), -3);
        Due.is("bits", x.person(0, 7), 3);
        Due.is("lay(0, 0)", x.lay(0, 0), 0);
        Due.is("take(0, 2): 6", x.take(0, 2), 0);
        Due.is("bits", x.person(0, 7), 6);
        Due.is("law(3)", x.law(NONE), OWN);
        Due.is("take(1, 0): 4", x.take(1, 0), 0);
        Due.is("hand(0, 1, 1): 9", x.hand(0, 1, 1), 0);
        Due.is("hand(0, 1, 2): 10", x.hand(0, 1, 2), -3);
        Due.is("bits", x.person(1, 7), 3);
        Due.is("hand(1, 0, 0) back", x.hand(1, 0, 0), 0);
        Due.is("hand(0, 1, 2): 6", x.hand(0, 1, 2), 0);
        Due.is("things that are carried", x.count(3), 3);
        NobodyCarries six = Due.town("p00,0,0,6;p00,0,0,9;", "t1100,1,1,1;".repeat(6));
        for (int t = 0; t < 6; t++) {
            Due.is("take(0, " + t + ")", six.take(0, t), 0);
        }
        Due.is("all six", six.person(0, 7), 63);
        Due.is("carried", six.count(3), 6);
    }

    private static void takeWhereHeIs() {
        Due.sentence("Terms", "TAKE a THING that lies where he is");
        NobodyCarries x = Due.town("w01,5;p00,0,0,9;p00,0,0,9;t1110,1,1,1;");
        Due.is("take(0, 0) from afar", x.take(0, 0), -3);
        Due.is("go(0, 1)", x.go(0, 1), 5);
        Due.is("take(0, 0)", x.take(0, 0), 5);
        Due.is("lay(0, 0)", x.lay(0, 0), 5);
        Due.is("go(0, 0)", x.go(0, 0), 10);
        Due.is("take(0, 0) from afar again", x.take(0, 0), -3);
    }

    /** Person 0 lays thing 0 at 10; the others come to it from 9, 10 and 11. */
    private static void takeNotAhead() {
        Due.sentence("Terms", "(not ahead of when it was laid there: CLOCK becomes that MINUTE, if it is later)");
        int[] due = {0, 10, 10, 11};
        for (int p = 1; p <= 3; p++) {
            NobodyCarries x = Due.town("p00,10,0,9;p00,9,0,9;p00,10,0,9;p00,11,0,9;p00,0,0,9;t4400,1,1,1;");
            Due.is("take(0, 0)", x.take(0, 0), 10);
            Due.is("lay(0, 0)", x.lay(0, 0), 10);
            Due.is("take(" + p + ", 0)", x.take(p, 0), due[p]);
            Due.is("CLOCK", x.person(p, 6), due[p]);
        }
    }

    private static void takeAtThatClock() {
        Due.sentence("Promise 9", "he MAY not (at CLOCK then)");
        int[] laid = {719, 720};
        for (int minute : laid) {
            NobodyCarries x = Due.town("p00," + minute + ",0,9;p00,0,0,9;t1100,1,1,1;");
            x.law(NIGHT);
            Due.is("take(0, 0)", x.take(0, 0), minute);
            Due.is("lay(0, 0)", x.lay(0, 0), minute);
            Due.is("the owner, at " + minute, x.take(1, 0), minute == 720 ? 720 : -3);
            Due.is("his CLOCK", x.person(1, 6), minute == 720 ? 720 : 0);
        }
        int[] last = {59, 60};
        for (int minute : last) {
            NobodyCarries x = Due.town("p00," + minute + ",0,9;p00,0,0,9;t1100,1,1,1;");
            x.law(HOUR);
            Due.is("give(1, 0)", x.give(1, 0), 0);
            Due.is("take(0, 0)", x.take(0, 0), minute);
            Due.is("lay(0, 0)", x.lay(0, 0), minute);
            Due.is("the owner in the hour, at " + minute, x.take(1, 0), minute == 59 ? 59 : -3);
        }
    }

    private static void goByLeast() {
        Due.sentence("Terms", "GO: by least MINUTES to a PLACE (where he is, too)");
        NobodyCarries x = Due.town("n7;w01,60;w12,60;w02,59;w45,1;p00,720,0,9;p40,0,0,9;");
        Due.is("go(0, 2) straight", x.go(0, 2), 779);
        Due.is("go(0, 2) where he is", x.go(0, 2), 779);
        Due.is("go(0, 1)", x.go(0, 1), 839);
        Due.is("told again", Due.tell(x, "w01,1;w02,1;"), 2);
        Due.is("go(0, 2) over 0", x.go(0, 2), 841);
        Due.is("go(1, 5)", x.go(1, 5), 1);
        Due.is("go(1, 6)", x.go(1, 6), -3);
        Due.is("go(1, 0)", x.go(1, 0), -3);
        Due.is("where he is", x.person(1, 5), 5);
    }

    private static void goWithAll() {
        Due.sentence("Terms", "with all he carries");
        NobodyCarries x = Due.town("w01,5;p00,0,0,9;p10,0,0,9;p10,0,0,9;t2201,1,9,1;t2201,1,9,1;t2201,1,9,1;");
        Due.is("take(0, 0)", x.take(0, 0), 0);
        Due.is("take(0, 2)", x.take(0, 2), 0);
        Due.is("go(0, 1)", x.go(0, 1), 5);
        Due.is("thing(1, 7) stays", x.thing(1, 7), 0);
        Due.is("lay(0, 0)", x.lay(0, 0), 5);
        Due.is("thing(0, 7)", x.thing(0, 7), 1);
        Due.is("thing(2, 7)", x.thing(2, 7), 10);
        Due.is("hand(0, 1, 2)", x.hand(0, 1, 2), 5);
        Due.is("thing(2, 7)", x.thing(2, 7), 11);
    }

    private static void goAsHeSetsOut() {
        Due.sentence("Terms", "(MAY he, is asked as he sets out)");
        int[] minutes = {59, 60};
        for (int minute : minutes) {
            NobodyCarries x = Due.town("w01,60;p00,0,0,9;p00,0,0,9;t0001,1,9,1;");
            x.law(HOUR);
            Due.is("give(0, 0)", x.give(0, 0), 0);
            Due.is("take(0, 0)", x.take(0, 0), 0);
            Due.is("tarry", x.tarry(0, minute), minute);
            Due.is("sets out at " + minute, x.go(0, 1), minute == 59 ? 119 : -3);
            Due.is("where he is", x.person(0, 5), minute == 59 ? 1 : 0);
        }
        for (int from = 719; from <= 720; from++) {
            NobodyCarries x = Due.town("w01,60;p00," + from + ",0,9;t0001,1,9,1;");
            x.law(NONE);
            Due.is("take(0, 0)", x.take(0, 0), from);
            x.law(NIGHT);
            Due.is("sets out at " + from, x.go(0, 1), from == 720 ? 780 : -3);
        }
        Due.sentence("Promise 10", "or he MAY not carry on something as he goes.");
        NobodyCarries x = Due.town("w01,9;p00,0,0,9;p00,0,0,9;t1101,1,9,1;t1101,1,9,1;t0001,1,9,1;");
        x.law(NONE);
        for (int t = 0; t < 3; t++) {
            Due.is("take(0, " + t + ")", x.take(0, t), 0);
        }
        x.law(OWN);
        Due.is("two of others', the last his", x.go(0, 1), -3);
        Due.is("nor to where he is", x.go(0, 0), -3);
        Due.is("lay(0, 2)", x.lay(0, 2), 0);
        Due.is("two of others'", x.go(0, 1), 9);
        Due.is("the owner without it", x.go(1, 1), 9);
    }

    private static void lay() {
        Due.sentence("Terms", "LAY: it lies there from his CLOCK on.");
        NobodyCarries x = Due.town("w01,5;p00,0,0,9;p00,0,0,9;t1101,1,9,1;");
        Due.is("take(0, 0)", x.take(0, 0), 0);
        Due.is("go(0, 1)", x.go(0, 1), 5);
        Due.is("tarry(0, 3)", x.tarry(0, 3), 8);
        Due.is("lay(0, 0)", x.lay(0, 0), 8);
        Due.is("where", x.thing(0, 7), 1);
        Due.is("since", x.thing(0, 8), 8);
        Due.is("tarry(0, 3)", x.tarry(0, 3), 11);
        Due.is("since still", x.thing(0, 8), 8);
        Due.sentence("Promise 11", "LAY: CLOCK.");
        Due.is("take(0, 0)", x.take(0, 0), 11);
        Due.is("law(3)", x.law(NONE), OWN);
        Due.is("go(1, 1)", x.go(1, 1), 5);
        Due.is("hand(0, 1, 0)", x.hand(0, 1, 0), 11);
        Due.is("law(0)", x.law(OWN), NONE);
        Due.is("one who MAY not lays it all the same", x.lay(1, 0), 11);
        Due.is("lay(1, 0) twice", x.lay(1, 0), -3);
    }

    private static void handLaterClock() {
        Due.sentence("Terms", "HAND to another PERSON at the same PLACE: both have the later CLOCK then.");
        int[] clocks = {9, 10, 11};
        for (int clock : clocks) {
            NobodyCarries x = Due.town("w01,5;p00,10,0,9;p00," + clock + ",0,9;p00,0,0,9;t2201,1,9,1;");
            int later = Math.max(10, clock);
            Due.is("take(0, 0)", x.take(0, 0), 10);
            Due.is("hand(0, 1, 0)", x.hand(0, 1, 0), later);
            Due.is("the giver's", x.person(0, 6), later);
            Due.is("the other's", x.person(1, 6), later);
            Due.is("a third one's", x.person(2, 6), 0);
            Due.is("the giver carries", x.person(0, 7), 0);
            Due.is("the other carries", x.person(1, 7), 1);
        }
        NobodyCarries x = Due.town("w01,5;p00,10,0,9;p01,0,0,9;p00,0,0,9;t2201,1,9,1;");
        Due.is("take(0, 0)", x.take(0, 0), 10);
        Due.is("go(1, 1)", x.go(1, 1), 5);
        Due.is("told at the same place, now not", x.hand(0, 1, 0), -3);
        Due.is("go(0, 1)", x.go(0, 1), 15);
        Due.is("at the same place again", x.hand(0, 1, 0), 15);
    }

    private static void handAtThatClock() {
        Due.sentence("Promise 12", "the other MAY not (at CLOCK then)");
        for (int clock = 719; clock <= 720; clock++) {
            NobodyCarries x = Due.town("p00," + clock + ",0,9;p00,0,0,9;t1101,1,9,1;");
            x.law(NIGHT);
            Due.is("take(0, 0)", x.take(0, 0), clock);
            Due.is("by the giver's CLOCK " + clock, x.hand(0, 1, 0), clock == 720 ? 720 : -3);
            Due.is("the other's", x.person(1, 6), clock == 720 ? 720 : 0);
            NobodyCarries y = Due.town("p00,0,0,9;p00," + clock + ",0,9;t1101,1,9,1;");
            y.law(NIGHT);
            Due.is("take(0, 0)", y.take(0, 0), 0);
            Due.is("by the other's CLOCK " + clock, y.hand(0, 1, 0), clock == 720 ? 720 : -3);
            Due.is("the giver's", y.person(0, 6), clock == 720 ? 720 : 0);
        }
        NobodyCarries z = Due.town("p00,0,0,9;p00,0,0,9;t0001,1,9,1;");
        z.law(NONE);
        Due.is("take(0, 0)", z.take(0, 0), 0);
        z.law(OWN);
        Due.is("who MAY not carry on may hand it", z.hand(0, 1, 0), 0);
    }

    private static void tarry() {
        Due.sentence("Terms", "TARRY m minutes.");
        NobodyCarries x = Due.town("p00,720,0,9;p00,5,0,9;");
        Due.is("tarry(0, 1)", x.tarry(0, 1), 721);
        Due.is("tarry(0, 600)", x.tarry(0, 600), 1321);
        Due.is("CLOCK", x.person(0, 6), 1321);
        Due.is("the other's", x.person(1, 6), 5);
        for (int i = 1; i <= 20; i++) {
            Due.is("beyond 9999, time " + i, x.tarry(0, 600), 1321 + 600 * i);
        }
        Due.is("FROM", x.person(0, 2), 720);
    }

    private static void give() {
        Due.sentence("Terms", "GIVE: an owner gives a THING away, wherever it is, at his CLOCK (for 60 minutes).");
        NobodyCarries x = Due.town("w01,5;p00,7,0,9;p10,9,0,9;p00,0,0,9;t0110,1,9,1;");
        x.law(HOUR);
        Due.is("where the first owner is not", x.give(0, 0), 7);
        Due.is("where the second owner is", x.give(1, 0), 9);
        Due.is("thing(0, 9)", x.thing(0, 9), 9);
        Due.is("it lies there still", x.thing(0, 7), 1);
        Due.is("he takes it", x.take(1, 0), 9);
        Due.is("while he carries it", x.give(1, 0), 9);
        Due.is("tarry(0, 60)", x.tarry(0, 60), 67);
        Due.is("while the other carries it", x.give(0, 0), 67);
        Due.is("thing(0, 9)", x.thing(0, 9), 67);
        Due.is("he carries it still", x.thing(0, 7), 11);
        Due.is("but not ahead of that hour", x.go(1, 0), -3);
        Due.is("CLOCK does not go", x.person(0, 6), 67);
        Due.is("tarry(1, 58)", x.tarry(1, 58), 67);
        Due.is("in that hour", x.go(1, 0), 72);
        Due.is("a stranger", x.give(2, 0), -3);
    }

    /** What each answers is what his CLOCK is behind it. */
    private static void clockThen() {
        NobodyCarries x = Due.town("w01,5;p00,20,0,9;p00,30,0,9;p10,3,0,9;p00,1,0,9;t3301,1,9,1;");
        Due.sentence("Promise 9", "TAKE: CLOCK then.");
        Due.is("take(0, 0)", x.take(0, 0), 20);
        Due.is("CLOCK", x.person(0, 6), 20);
        Due.sentence("Promise 10", "GO: CLOCK then.");
        Due.is("go(2, 0)", x.go(2, 0), 8);
        Due.is("CLOCK", x.person(2, 6), 8);
        Due.sentence("Promise 12", "HAND: CLOCK then.");
        Due.is("hand(0, 1, 0)", x.hand(0, 1, 0), 30);
        Due.is("CLOCK", x.person(0, 6), 30);
        Due.is("hand(1, 2, 0)", x.hand(1, 2, 0), 30);
        Due.is("CLOCK", x.person(2, 6), 30);
        Due.sentence("Promise 13", "TARRY: CLOCK then.");
        Due.is("tarry(2, 7)", x.tarry(2, 7), 37);
        Due.is("CLOCK", x.person(2, 6), 37);
        Due.sentence("Promise 14", "GIVE: CLOCK.");
        Due.is("give(3, 0)", x.give(3, 0), 1);
        Due.is("CLOCK", x.person(3, 6), 1);
        Due.sentence("Promise 11", "LAY: CLOCK.");
        Due.is("lay(2, 0)", x.lay(2, 0), 37);
        Due.is("CLOCK", x.person(2, 6), 37);
        Due.sentence("Promise 9", "TAKE: CLOCK then.");
        Due.is("take(0, 0) waits", x.take(0, 0), 37);
        Due.is("CLOCK", x.person(0, 6), 37);
    }

    private static void there() {
        Due.sentence("Promise 15", "How many THINGS lie at their TO, since no later than BY.");
        NobodyCarries x = Due.town("w01,5;p00,5,0,9;p00,0,0,9;", "t1101,1,10,1;t1101,1,9,1;t1100,1,0,1;t1110,1,99,1;");
        Due.is("one was there from the first, BY 0", x.there(), 1);
        Due.is("take(0, 0)", x.take(0, 0), 5);
        Due.is("take(0, 1)", x.take(0, 1), 5);
        Due.is("go(0, 1)", x.go(0, 1), 10);
        Due.is("carried things do not lie", x.there(), 1);
        Due.is("lay(0, 0) by BY", x.lay(0, 0), 10);
        Due.is("there()", x.there(), 2);
        Due.is("lay(0, 1), a minute later than BY", x.lay(0, 1), 10);
        Due.is("there()", x.there(), 2);
        Due.is("take(0, 3)", x.take(0, 3), 10);
        Due.is("go(0, 0)", x.go(0, 0), 15);
        Due.is("lay(0, 3)", x.lay(0, 3), 15);
        Due.is("there()", x.there(), 3);
        Due.is("take(0, 2)", x.take(0, 2), 15);
        Due.is("lay(0, 2) where it was, but later", x.lay(0, 2), 15);
        Due.is("there()", x.there(), 2);
        Due.is("of nothing", new NobodyCarries().there(), 0);
    }
}
