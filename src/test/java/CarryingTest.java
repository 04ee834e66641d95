/** Promises 7 to 15: the laws, and carrying as it comes to pass. */
final class CarryingTest {
    public static void main(String[] args) {
        laws();
        hour();
        taking();
        going();
        laying();
        handing();
        tarrying();
        giving();
        there();
        Due.end();
    }

    /** Persons 0 and 1 own thing 0; 2 has the kin of 1, 3 another, 4 none, 5 too little room. */
    private static void laws() {
        NobodyCarries x = Due.town("p00,0,0,9;p00,0,2,9;p00,0,2,9;p00,0,3,9;p00,0,0,9;p00,0,0,3;", "t0100,4,99,1;");
        int[][] due = {
            {0, 0, 1, 1, 1, 0},
            {0, 0, 0, 1, 1, 0},
            {0, 0, 1, 1, 1, 0},
            {1, 1, 1, 1, 1, 0},
            {0, 0, 0, 1, 1, 0}};
        int was = 0;
        for (int law = 0; law < due.length; law++) {
            Due.is("law(" + law + ")", x.law(law), was);
            was = law;
            for (int p = 0; p < 6; p++) {
                Due.is("may(" + p + ", 0, 719) by " + law, x.may(p, 0, 719), due[law][p]);
                Due.is("may(" + p + ", 0, 720) by " + law, x.may(p, 0, 720), law == 4 ? due[3][p] : due[law][p]);
            }
        }
        Due.is("law(5)", x.law(5), -2);
        Due.is("law(-1)", x.law(-1), -2);
        Due.is("law(0)", x.law(0), 4);
        Due.is("may(6, 0, -1)", x.may(6, 0, -1), -1);
        Due.is("may(-1, 0, 0)", x.may(-1, 0, 0), -1);
        Due.is("may(0, 1, 0)", x.may(0, 1, 0), -1);
        Due.is("may(0, -1, 0)", x.may(0, -1, 0), -1);
        Due.is("may(0, 0, -1)", x.may(0, 0, -1), -4);
        Due.is("may(0, 0, 10000)", x.may(0, 0, 10000), -6);
        Due.is("may(4, 0, 9999)", x.may(4, 0, 9999), 1);
        Due.is("may(4, 0, 0)", x.may(4, 0, 0), 1);
        Due.is("refusals -2", x.count(12), 2);
        Due.is("refusals -4", x.count(14), 1);
        Due.is("refusals -6", x.count(16), 1);
    }

    private static void hour() {
        NobodyCarries x = Due.town("p00,100,1,9;p00,0,1,9;p00,0,1,9;t0100,4,99,1;");
        Due.is("law(2)", x.law(2), 0);
        Due.is("give(0, 0)", x.give(0, 0), 100);
        int[] minutes = {99, 100, 159, 160};
        int[] due = {0, 1, 1, 0};
        for (int i = 0; i < minutes.length; i++) {
            Due.is("may(0, 0, " + minutes[i] + ")", x.may(0, 0, minutes[i]), due[i]);
            Due.is("may(1, 0, " + minutes[i] + ")", x.may(1, 0, minutes[i]), due[i]);
            Due.is("may(2, 0, " + minutes[i] + ")", x.may(2, 0, minutes[i]), 1);
        }
        Due.is("law(0)", x.law(0), 2);
        Due.is("given is nothing to another law", x.may(0, 0, 120), 0);
        Due.is("law(2)", x.law(2), 0);
        Due.is("go on carrying it", x.take(0, 0), 100);
        Due.is("tarry", x.tarry(0, 59), 159);
        Due.is("in the hour", x.go(0, 0), 159);
        Due.is("tarry", x.tarry(0, 1), 160);
        Due.is("behind the hour", x.go(0, 0), -3);
        Due.is("hand on still", x.hand(0, 2, 0), 160);
        Due.is("to an owner no more", x.hand(2, 1, 0), -3);
    }

    private static void taking() {
        NobodyCarries x = Due.town("w01,5;p00,10,1,5;p00,3,1,9;p10,0,2,9;", "t2200,3,99,1;t2200,2,99,1;t2200,1,99,1;");
        Due.is("take(2, 0) of another place", x.take(2, 0), -3);
        Due.is("take(0, 0)", x.take(0, 0), 10);
        Due.is("take(0, 0) again", x.take(0, 0), -3);
        Due.is("take(1, 0) that is carried", x.take(1, 0), -3);
        Due.is("take(0, 1) just fits", x.take(0, 1), 10);
        Due.is("take(0, 2) has no room", x.take(0, 2), -3);
        Due.is("person(0, 7)", x.person(0, 7), 3);
        Due.is("thing(1, 7)", x.thing(1, 7), 10);
        Due.is("thing(1, 8)", x.thing(1, 8), 0);
        Due.is("lay(0, 1)", x.lay(0, 1), 10);
        Due.is("thing(1, 8)", x.thing(1, 8), 10);
        Due.is("carried", x.count(3), 1);
        Due.is("take(1, 1) waits for it", x.take(1, 1), 10);
        Due.is("person(1, 6)", x.person(1, 6), 10);
        Due.is("go(2, 0)", x.go(2, 0), 5);
        Due.is("an owner", x.take(2, 2), -3);
        Due.is("take(3, 0)", x.take(3, 0), -1);
        Due.is("take(0, 3)", x.take(0, 3), -1);
        Due.is("take(-1, 0)", x.take(-1, 0), -1);
        Due.is("take(0, -1)", x.take(0, -1), -1);
        Due.is("refusals -3", x.count(13), 5);
        NobodyCarries late = Due.town("p00,720,1,9;p00,719,1,9;t1100,1,99,1;");
        Due.is("law(4)", late.law(4), 0);
        Due.is("the owner ahead of night", late.take(1, 0), -3);
        Due.is("his kin by night", late.take(0, 0), 720);
        Due.is("lay(0, 0)", late.lay(0, 0), 720);
        Due.is("he waits till then and MAY then", late.take(1, 0), 720);
    }

    private static void going() {
        NobodyCarries x = Due.town("w01,5;w12,5;w02,20;p00,10,1,5;p00,0,0,5;t1103,3,99,1;");
        Due.is("take(0, 0)", x.take(0, 0), 10);
        Due.is("go(0, 2) by the least", x.go(0, 2), 20);
        Due.is("go(0, 2) again", x.go(0, 2), 20);
        Due.is("go(0, 3)", x.go(0, 3), -3);
        Due.is("go(0, 4)", x.go(0, 4), -1);
        Due.is("go(0, -1)", x.go(0, -1), -1);
        Due.is("go(2, 0)", x.go(2, 0), -1);
        Due.is("go(-1, 0)", x.go(-1, 0), -1);
        Due.is("thing(0, 7)", x.thing(0, 7), 10);
        Due.is("law(3)", x.law(3), 0);
        Due.is("hand(0, 1, 0) elsewhere", x.hand(0, 1, 0), -3);
        Due.is("go(1, 2)", x.go(1, 2), 10);
        Due.is("hand(0, 1, 0)", x.hand(0, 1, 0), 20);
        Due.is("law(0)", x.law(0), 3);
        Due.is("the owner may not go on", x.go(1, 0), -3);
        Due.is("nor where he is", x.go(1, 2), -3);
        Due.is("person(1, 6)", x.person(1, 6), 20);
        Due.is("he may lay it", x.lay(1, 0), 20);
        Due.is("go(1, 0)", x.go(1, 0), 30);
    }

    private static void laying() {
        NobodyCarries x = Due.town("w01,5;p00,10,1,5;p00,0,0,5;t1101,3,99,1;");
        Due.is("lay(0, 0) not taken", x.lay(0, 0), -3);
        Due.is("take(0, 0)", x.take(0, 0), 10);
        Due.is("lay(1, 0) another's", x.lay(1, 0), -3);
        Due.is("go(0, 1)", x.go(0, 1), 15);
        Due.is("lay(0, 0)", x.lay(0, 0), 15);
        Due.is("thing(0, 7)", x.thing(0, 7), 1);
        Due.is("thing(0, 8)", x.thing(0, 8), 15);
        Due.is("person(0, 7)", x.person(0, 7), 0);
        Due.is("lay(2, 0)", x.lay(2, 0), -1);
        Due.is("lay(0, 1)", x.lay(0, 1), -1);
        Due.is("lay(-1, -1)", x.lay(-1, -1), -1);
    }

    private static void handing() {
        NobodyCarries x = Due.town("p00,10,1,9;p00,70,1,4;p00,30,2,9;p11,0,2,9;", "t2200,3,99,1;t2200,2,99,1;");
        Due.is("hand(0, 1, 0) not carried", x.hand(0, 1, 0), -3);
        Due.is("take(0, 0)", x.take(0, 0), 10);
        Due.is("take(0, 1)", x.take(0, 1), 10);
        Due.is("to the owner", x.hand(0, 2, 0), -3);
        Due.is("elsewhere", x.hand(0, 3, 0), -3);
        Due.is("person(0, 6)", x.person(0, 6), 10);
        Due.is("hand(0, 1, 0)", x.hand(0, 1, 0), 70);
        Due.is("person(0, 6)", x.person(0, 6), 70);
        Due.is("person(1, 6)", x.person(1, 6), 70);
        Due.is("person(0, 7)", x.person(0, 7), 2);
        Due.is("person(1, 7)", x.person(1, 7), 1);
        Due.is("thing(0, 7)", x.thing(0, 7), 11);
        Due.is("no room", x.hand(0, 1, 1), -3);
        Due.is("to himself", x.hand(0, 0, 1), -1);
        Due.is("hand(4, 0, 0)", x.hand(4, 0, 0), -1);
        Due.is("hand(0, 4, 0)", x.hand(0, 4, 0), -1);
        Due.is("hand(0, 1, 2)", x.hand(0, 1, 2), -1);
        Due.is("hand(-1, -1, -1)", x.hand(-1, -1, -1), -1);
        NobodyCarries night = Due.town("p00,100,0,9;p00,720,0,9;p00,719,0,9;t1200,3,99,1;");
        Due.is("law(4)", night.law(4), 0);
        Due.is("take(0, 0)", night.take(0, 0), 100);
        Due.is("ahead of night", night.hand(0, 2, 0), -3);
        Due.is("by the other's clock it is night", night.hand(0, 1, 0), 720);
        Due.is("person(0, 6)", night.person(0, 6), 720);
    }

    private static void tarrying() {
        NobodyCarries x = Due.town("p00,10,1,9;");
        Due.is("tarry(0, 1)", x.tarry(0, 1), 11);
        Due.is("tarry(0, 600)", x.tarry(0, 600), 611);
        Due.is("tarry(0, 0)", x.tarry(0, 0), -4);
        Due.is("tarry(0, 601)", x.tarry(0, 601), -6);
        Due.is("tarry(1, 0)", x.tarry(1, 0), -1);
        Due.is("tarry(-1, 5)", x.tarry(-1, 5), -1);
        Due.is("person(0, 6)", x.person(0, 6), 611);
    }

    private static void giving() {
        NobodyCarries x = Due.town("p00,10,1,9;p00,20,1,9;p00,30,1,9;t0200,1,9,9;");
        Due.is("give(1, 0) is not his", x.give(1, 0), -3);
        Due.is("give(0, 0)", x.give(0, 0), 10);
        Due.is("thing(0, 9)", x.thing(0, 9), 10);
        Due.is("give(2, 0)", x.give(2, 0), 30);
        Due.is("thing(0, 9)", x.thing(0, 9), 30);
        Due.is("give(3, 0)", x.give(3, 0), -1);
        Due.is("give(0, 1)", x.give(0, 1), -1);
        Due.is("give(-1, -1)", x.give(-1, -1), -1);
        Due.is("take(1, 0)", x.take(1, 0), 20);
        Due.is("tarry(0, 90)", x.tarry(0, 90), 100);
        Due.is("give(0, 0) while another carries it", x.give(0, 0), 100);
        Due.is("thing(0, 9)", x.thing(0, 9), 100);
    }

    private static void there() {
        NobodyCarries x = Due.town("w01,5;p00,10,0,9;p00,0,0,9;", "t1101,1,15,1;t1101,1,14,1;t1100,1,0,1;");
        Due.is("there()", x.there(), 1);
        for (int t = 0; t < 3; t++) {
            Due.is("take(0, " + t + ")", x.take(0, t), 10);
        }
        Due.is("there()", x.there(), 0);
        Due.is("go(0, 1)", x.go(0, 1), 15);
        Due.is("there() while carried", x.there(), 0);
        for (int t = 0; t < 3; t++) {
            Due.is("lay(0, " + t + ")", x.lay(0, t), 15);
        }
        Due.is("there()", x.there(), 1);
    }
}
