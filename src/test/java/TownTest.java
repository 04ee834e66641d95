/** Promises 1 to 6: a new object, letters, towns and their faults, what is told. */
final class TownTest {
    public static void main(String[] args) {
        newObject();
        letters();
        faultsOfLetters();
        faultsOfStatements();
        placesAlreadyToldOf();
        roomForMore();
        nothingComesWithAFault();
        minutes();
        persons();
        things();
        Due.end();
    }

    private static void newObject() {
        NobodyCarries x = new NobodyCarries();
        int[] counts = {4, 0, 0, 0, 0, 0, -9};
        for (int what = 0; what < counts.length; what++) {
            Due.is("count(" + what + ")", x.count(what), counts[what]);
        }
        for (int what = 11; what <= 16; what++) {
            Due.is("count(" + what + ")", x.count(what), 0);
        }
        Due.is("minutes(3, 3)", x.minutes(3, 3), 0);
        Due.is("minutes(4, 4)", x.minutes(4, 4), -1);
        Due.is("the law", x.law(0), 0);
    }

    private static void letters() {
        NobodyCarries x = new NobodyCarries();
        Due.is("letter(-1)", x.letter(-1), -4);
        Due.is("letter(256)", x.letter(256), -6);
        Due.is("letter(0)", x.letter(0), 1);
        Due.is("letter(255)", x.letter(255), 2);
        for (int i = 3; i <= 64; i++) {
            Due.is("letter " + i, x.letter('n'), i);
        }
        Due.is("letter 65", x.letter('n'), -6);
        Due.is("letter 65, below", x.letter(-1), -4);
        Due.is("letters", x.count(5), 64);
        Due.is("refusals -4", x.count(14), 2);
        Due.is("refusals -6", x.count(16), 2);
        Due.is("town()", x.town(), -1000);
        Due.is("letters behind it", x.count(5), 0);
        Due.is("refusals -1", x.count(11), 0);
    }

    private static void fault(String text, int due) {
        Due.is("town() of " + text, Due.tell(new NobodyCarries(), text), due);
    }

    private static void faultsOfLetters() {
        fault("", -1000);
        fault(";", -1000);
        fault("n", -1001);
        fault("nn", -1001);
        fault("n4", -1002);
        fault("n4;;", -1003);
        fault("n4; ", -1003);
        fault("N4;", -1000);
        fault("w0,1,1;", -1002);
        fault("w01,;", -1004);
        fault("w01,100;", -1006);
        fault("p01,,0,0;", -1004);
        fault("p01,0720,0,0;", -1007);
        fault("p01,720,0,0", -1011);
        fault("p01,720,0,10;", -1011);
        fault("t000,1,1,1;", -1004);
        fault("t0000,10,1,1;", -1007);
        fault("t0000,1,1000,1;", -1011);
        fault("t0000,1,1,100;", -1012);
        fault("t0000,1,1,;", -1010);
        fault("n9;w00,0;x", -1009);
        StringBuilder full = new StringBuilder();
        for (int i = 0; i < 21; i++) {
            full.append("n5;");
        }
        fault(full.toString(), 21);
        fault(full + "n", -1064);
    }

    private static void faultsOfStatements() {
        fault("n0;", -2000);
        fault("n2;", 1);
        fault("n7;", 1);
        fault("n9;", -2000);
        fault("w01,01;", 1);
        fault("w01,60;", 1);
        fault("w01,00;", -2000);
        fault("w11,5;", -2000);
        fault("w34,5;", -2000);
        fault("w43,5;", -2000);
        fault("n5;w34,5;", 2);
        fault("w34,5;n5;", -2000);
        fault("p33,720,9,9;", 1);
        fault("p33,721,9,9;", -2000);
        fault("p30,000,0,0;p43,0,0,0;", -2012);
        fault("p34,0,0,0;", -2000);
        fault("p00,0,0,0;t0000,9,999,99;", 2);
        fault("p00,0,0,0;t0000,0,999,99;", -2010);
        fault("p00,0,0,0;t1000,1,1,1;", -2010);
        fault("p00,0,0,0;t0040,1,1,1;", -2010);
        fault("t0000,1,1,1;p00,0,0,0;", -2000);
        fault("n5;n2;w01,5;w02,5;", -2012);
    }

    private static void placesAlreadyToldOf() {
        fault("w01,5;n2;", 2);
        fault("w02,5;n2;", -2006);
        fault("w02,5;n3;", 2);
        fault("p02,0,0,0;n2;", -2010);
        fault("p20,0,0,0;n2;", -2010);
        fault("p00,0,0,0;t0002,1,1,1;n2;", -2022);
        fault("p00,0,0,0;t0020,1,1,1;n2;", -2022);
        fault("p00,0,0,0;t0020,1,1,1;n3;", 3);
        NobodyCarries x = Due.town("w02,5;");
        Due.is("n2; in a text of its own", Due.tell(x, "n2;"), -2000);
        Due.is("n3;", Due.tell(x, "n3;"), 1);
        Due.is("places", x.count(0), 3);
        Due.is("minutes(0, 3)", x.minutes(0, 3), -1);
    }

    private static void roomForMore() {
        String six = "p00,0,0,0;p00,0,0,0;p00,0,0,0;p00,0,0,0;p00,0,0,0;p00,0,0,0;";
        NobodyCarries x = Due.town(six);
        Due.is("a seventh person", Due.tell(x, "n4;p00,0,0,0;"), -2003);
        String four = "t0000,1,1,1;t0000,1,1,1;t0000,1,1,1;t0000,1,1,1;";
        Due.is("four things", Due.tell(x, four), 4);
        Due.is("eight things", Due.tell(x, four), -2024);
        Due.is("six things", Due.tell(x, "t0000,1,1,1;t5555,1,1,1;"), -2012);
        Due.is("six things", Due.tell(x, "t0000,1,1,1;t5533,1,1,1;"), 2);
        Due.is("a seventh thing", Due.tell(x, "t0000,1,1,1;"), -2000);
        Due.is("persons", x.count(1), 6);
        Due.is("things", x.count(2), 6);
    }

    private static void nothingComesWithAFault() {
        NobodyCarries x = Due.town("w01,5;");
        Due.is("town()", Due.tell(x, "n6;w01,9;p00,0,0,0;t0000,1,1,1;w00,1;"), -2031);
        Due.is("places", x.count(0), 4);
        Due.is("persons", x.count(1), 0);
        Due.is("things", x.count(2), 0);
        Due.is("minutes(0, 1)", x.minutes(0, 1), 5);
        for (int what = 11; what <= 16; what++) {
            Due.is("a fault is no refusal", x.count(what), 0);
        }
    }

    private static void minutes() {
        NobodyCarries x = Due.town("n6;w01,10;w12,10;w02,21;w23,60;w34,60;");
        Due.is("minutes(0, 2)", x.minutes(0, 2), 20);
        Due.is("minutes(2, 0)", x.minutes(2, 0), 20);
        Due.is("minutes(0, 4)", x.minutes(0, 4), 140);
        Due.is("minutes(0, 5)", x.minutes(0, 5), -9);
        Due.is("minutes(5, 5)", x.minutes(5, 5), 0);
        Due.is("minutes(-1, 0)", x.minutes(-1, 0), -1);
        Due.is("minutes(0, 6)", x.minutes(0, 6), -1);
        Due.is("told again", Due.tell(x, "w02,5;w10,50;"), 2);
        Due.is("minutes(0, 2)", x.minutes(0, 2), 5);
        Due.is("minutes(0, 1)", x.minutes(0, 1), 15);
        Due.is("refusals -1", x.count(11), 2);
    }

    private static void persons() {
        NobodyCarries x = Due.town("w12,07;p12,007,3,8;p20,720,0,9;");
        int[] due = {1, 2, 7, 3, 8, 1, 7, 0};
        for (int what = 0; what < due.length; what++) {
            Due.is("person(0, " + what + ")", x.person(0, what), due[what]);
        }
        Due.is("go(0, 2)", x.go(0, 2), 14);
        Due.is("person(0, 0)", x.person(0, 0), 1);
        Due.is("person(0, 5)", x.person(0, 5), 2);
        Due.is("person(0, 6)", x.person(0, 6), 14);
        Due.is("person(1, 6)", x.person(1, 6), 720);
        Due.is("person(2, 9)", x.person(2, 9), -1);
        Due.is("person(-1, 0)", x.person(-1, 0), -1);
        Due.is("person(0, 8)", x.person(0, 8), -2);
        Due.is("person(0, -1)", x.person(0, -1), -2);
        Due.is("refusals -1", x.count(11), 2);
        Due.is("refusals -2", x.count(12), 2);
    }

    private static void things() {
        NobodyCarries x = Due.town("p12,7,3,8;p20,720,0,9;t0123,4,056,07;");
        int[] due = {0, 1, 2, 3, 4, 56, 7, 2, 0, -9};
        for (int what = 0; what < due.length; what++) {
            Due.is("thing(0, " + what + ")", x.thing(0, what), due[what]);
        }
        Due.is("thing(1, 99)", x.thing(1, 99), -1);
        Due.is("thing(-1, 0)", x.thing(-1, 0), -1);
        Due.is("thing(0, 10)", x.thing(0, 10), -2);
        Due.is("thing(0, -1)", x.thing(0, -1), -2);
    }
}
