import java.util.regex.Matcher;
import java.util.regex.Pattern;

/** Terms, the first part (towns told in letters, their faults), and promises 1 to 6: every edge that they name. */
final class TellingEdgesTest {
    private static final Pattern FORM = Pattern.compile(
            "(n[0-9];|w[0-9]{2},[0-9]{1,2};|p[0-9]{2},[0-9]{1,3},[0-9],[0-9];"
            + "|t[0-9]{4},[0-9],[0-9]{1,3},[0-9]{1,2};)+");
    private static final String SIX_PERSONS = "p00,0,0,0;p00,0,0,0;p00,0,0,0;p00,0,0,0;p00,0,0,0;p00,0,0,0;";
    private static final String ONE = "p00,0,0,0;";

    public static void main(String[] args) {
        places();
        placesToldOf();
        ways();
        wayToldAgain();
        persons();
        sixPersons();
        things();
        sixThings();
        numbersWithZero();
        lettersAtMost();
        faultOfKindOne();
        faultOfKindTwo();
        behindAllAhead();
        allOrNothing();
        lettersAreNoMore();
        statements();
        leastMinutes();
        ofAPerson();
        ofAThing();
        Due.end();
    }

    private static void told(String text, int due) {
        Due.is("town() of " + text, Due.tell(new NobodyCarries(), text), due);
    }

    private static void places() {
        Due.sentence("Terms", "PLACES 0 .. 6 (2 .. 7 of them; 4 at first).");
        Due.is("at first", new NobodyCarries().count(0), 4);
        for (int n = 0; n <= 9; n++) {
            NobodyCarries x = new NobodyCarries();
            boolean fits = n >= 2 && n <= 7;
            Due.is("n" + n, Due.tell(x, "n" + n + ";"), fits ? 1 : -2000);
            Due.is("places behind n" + n, x.count(0), fits ? n : 4);
            int last = fits ? n - 1 : 3;
            Due.is("the last place behind n" + n, x.minutes(last, last), 0);
            Due.is("the next behind n" + n, x.minutes(last + 1, last + 1), -1);
        }
    }

    /** Each names place 3 once, in another way, so that 4 places are the fewest there can be. */
    private static void placesToldOf() {
        String[] texts = {
            "w03,5;", "w30,5;", "p03,0,0,0;", "p30,0,0,0;", ONE + "t0003,1,1,1;", ONE + "t0030,1,1,1;"};
        Due.sentence("Terms", "not fewer than are told of already,");
        for (String text : texts) {
            int statements = text.split(";").length;
            told(text + "n3;", -2000 - text.length());
            told(text + "n4;", statements + 1);
            NobodyCarries x = Due.town(text);
            Due.is("n2; behind " + text, Due.tell(x, "n2;"), -2000);
            Due.is("n3; behind " + text, Due.tell(x, "n3;"), -2000);
            Due.is("n7; behind " + text, Due.tell(x, "n7;"), 1);
            Due.is("n4; behind " + text, Due.tell(x, "n4;"), 1);
            Due.is("places", x.count(0), 4);
        }
        told("n7;n2;", 2);
        Due.sentence("Terms", "or PERSONS and THINGS that lie are at)");
        NobodyCarries x = Due.town("w01,5;w12,5;p00,0,0,9;p00,0,0,9;t1101,1,1,1;");
        Due.is("take(0, 0)", x.take(0, 0), 0);
        Due.is("go(0, 2)", x.go(0, 2), 10);
        Due.is("n2; with one at 2", Due.tell(x, "n2;"), -2000);
        Due.is("lay(0, 0)", x.lay(0, 0), 10);
        Due.is("go(0, 0)", x.go(0, 0), 20);
        Due.is("n2; with a thing at 2", Due.tell(x, "n2;"), -2000);
        Due.is("n3;", Due.tell(x, "n3;"), 1);
    }

    private static void ways() {
        Due.sentence("Terms", "MINUTES (1 or 2 digits, 1 .. 60)");
        String[] good = {"1", "01", "9", "10", "59", "60"};
        for (String minutes : good) {
            NobodyCarries x = Due.town("w01," + minutes + ";");
            Due.is("minutes(0, 1) of " + minutes, x.minutes(0, 1), Integer.parseInt(minutes));
        }
        told("w01,0;", -2000);
        told("w01,00;", -2000);
        told("w01,61;", -2000);
        told("w01,99;", -2000);
        told("w01,;", -1004);
        told("w01,060;", -1006);
        Due.sentence("Terms", "a WAY, either way");
        NobodyCarries x = Due.town("w31,7;");
        Due.is("minutes(1, 3)", x.minutes(1, 3), 7);
        Due.is("minutes(3, 1)", x.minutes(3, 1), 7);
        Due.sentence("Terms", "two alike in w");
        told("w00,5;", -2000);
        told("w33,5;", -2000);
        Due.sentence("Terms", "a PLACE or PERSON that is not there ahead of it");
        told("w03,5;", 1);
        told("w04,5;", -2000);
        told("w40,5;", -2000);
        told("w09,5;", -2000);
        told("n7;w56,5;", 2);
        told("n7;w67,5;", -2003);
        told("n2;w01,5;", 2);
        told("n2;w12,5;", -2003);
    }

    private static void wayToldAgain() {
        Due.sentence("Terms", "(told again it takes the place)");
        NobodyCarries x = Due.town("w01,5;w01,9;");
        Due.is("longer in one text", x.minutes(0, 1), 9);
        Due.is("town()", Due.tell(x, "w10,60;"), 1);
        Due.is("longer the other way about", x.minutes(0, 1), 60);
        Due.is("and back", x.minutes(1, 0), 60);
        Due.is("town()", Due.tell(x, "w01,1;"), 1);
        Due.is("shorter", x.minutes(1, 0), 1);
    }

    private static void persons() {
        Due.sentence("Terms", "FROM (1 to 3 digits, 0 .. 720)");
        String[] good = {"0", "00", "000", "7", "72", "720", "099"};
        for (String from : good) {
            NobodyCarries x = Due.town("p00," + from + ",0,0;");
            Due.is("FROM of " + from, x.person(0, 2), Integer.parseInt(from));
        }
        told("p00,721,0,0;", -2000);
        told("p00,999,0,0;", -2000);
        told("p00,,0,0;", -1004);
        told("p00,0000,0,0;", -1007);
        Due.sentence("Terms", "KIN (a digit) \",\" ROOM (a digit): a PERSON more");
        NobodyCarries x = Due.town("p00,0,9,0;p00,0,0,9;");
        Due.is("KIN 9", x.person(0, 3), 9);
        Due.is("ROOM 0", x.person(0, 4), 0);
        Due.is("KIN 0", x.person(1, 3), 0);
        Due.is("ROOM 9", x.person(1, 4), 9);
        told("p00,0,10,0;", -1007);
        told("p00,0,0,10;", -1009);
        told("p00,0,,0;", -1006);
        told("p00,0,0,;", -1008);
        Due.sentence("Terms", "\"p\" two digits (AT, TO)");
        told("p33,0,0,0;", 1);
        told("p43,0,0,0;", -2000);
        told("p34,0,0,0;", -2000);
        told("n7;p66,0,0,0;", 2);
        told("n7;p67,0,0,0;", -2003);
        told("n7;p76,0,0,0;", -2003);
        told("p0,0,0,0;", -1002);
        told("p000,0,0,0;", -1003);
    }

    private static void sixPersons() {
        Due.sentence("Terms", "no room for more): -2000 less the place.");
        told(SIX_PERSONS, 6);
        NobodyCarries four = Due.town(ONE.repeat(4));
        Due.is("the third of four more", Due.tell(four, ONE.repeat(4)), -2020);
        Due.is("four things", Due.tell(four, "t0000,1,1,1;".repeat(4)), 4);
        Due.is("the third of three more", Due.tell(four, "t0000,1,1,1;".repeat(3)), -2024);
        Due.sentence("Terms", "a PERSON more (6 at most)");
        NobodyCarries x = Due.town(SIX_PERSONS);
        Due.is("persons", x.count(1), 6);
        Due.is("a seventh", Due.tell(x, ONE), -2000);
        Due.is("a seventh behind another statement", Due.tell(x, "n4;" + ONE), -2003);
        Due.is("persons", x.count(1), 6);
        NobodyCarries five = Due.town(SIX_PERSONS.substring(10));
        Due.is("two more than five", Due.tell(five, ONE + ONE), -2010);
        Due.is("persons", five.count(1), 5);
        Due.is("one more than five", Due.tell(five, ONE), 1);
        Due.is("persons", five.count(1), 6);
        Due.is("places and a way still", Due.tell(five, "n7;w06,1;"), 2);
        Due.is("places", five.count(0), 7);
    }

    private static void things() {
        Due.sentence("Terms", "\"t\" OWNER (a digit: a PERSON), OWNER (a digit: a second one, or the same, if there is none)");
        told(ONE + "t0000,1,1,1;", 2);
        told(ONE + "t1000,1,1,1;", -2010);
        told(ONE + "t0100,1,1,1;", -2010);
        told(ONE + ONE + "t1000,1,1,1;", 3);
        told(ONE + ONE + "t0200,1,1,1;", -2020);
        NobodyCarries full = Due.town(SIX_PERSONS, "t5533,1,1,1;");
        Due.is("an owner 5", full.thing(0, 1), 5);
        Due.is("an owner 6", Due.tell(full, "t5600,1,1,1;"), -2000);
        Due.is("an owner 9", Due.tell(full, "t9500,1,1,1;"), -2000);
        Due.sentence("Terms", "two digits (AT, TO) \",\" SIZE (a digit, 1 .. 9)");
        told(ONE + "t0033,1,1,1;", 2);
        told(ONE + "t0043,1,1,1;", -2010);
        told(ONE + "t0034,1,1,1;", -2010);
        told(ONE + "t0000,0,1,1;", -2010);
        told(ONE + "t0000,9,1,1;", 2);
        told(ONE + "t0000,10,1,1;", -1017);
        told(ONE + "t0000,,1,1;", -1016);
        Due.sentence("Terms", "BY (1 to 3 digits, 0 .. 999)");
        told(ONE + "t0000,1,0,1;", 2);
        told(ONE + "t0000,1,000,1;", 2);
        told(ONE + "t0000,1,999,1;", 2);
        told(ONE + "t0000,1,1000,1;", -1021);
        told(ONE + "t0000,1,,1;", -1018);
        Due.sentence("Terms", "WORTH (1 or 2 digits)");
        told(ONE + "t0000,1,1,0;", 2);
        told(ONE + "t0000,1,1,00;", 2);
        told(ONE + "t0000,1,1,99;", 2);
        told(ONE + "t0000,1,1,099;", -1022);
        told(ONE + "t0000,1,1,;", -1020);
    }

    private static void sixThings() {
        Due.sentence("Terms", "a THING more (6 at most)");
        String thing = "t0000,1,1,1;";
        NobodyCarries x = Due.town(ONE, thing.repeat(5));
        Due.is("two more than five", Due.tell(x, thing + thing), -2012);
        Due.is("things", x.count(2), 5);
        Due.is("one more than five", Due.tell(x, thing), 1);
        Due.is("things", x.count(2), 6);
        Due.is("a seventh", Due.tell(x, thing), -2000);
        Due.is("things", x.count(2), 6);
        Due.is("places and a way still", Due.tell(x, "n7;w06,1;"), 2);
        Due.is("places", x.count(0), 7);
    }

    private static void numbersWithZero() {
        Due.sentence("Terms", "Numbers may begin with 0.");
        NobodyCarries x = Due.town("w01,07;p01,009,0,9;t0001,1,010,03;");
        Due.is("MINUTES 07", x.minutes(0, 1), 7);
        Due.is("FROM 009", x.person(0, 2), 9);
        Due.is("BY 010", x.thing(0, 5), 10);
        Due.is("WORTH 03", x.thing(0, 6), 3);
    }

    private static void lettersAtMost() {
        Due.sentence("Terms", "A TOWN is told in letters, one by one (64 at most)");
        String full = ONE.repeat(4) + "t0000,1,1,1;".repeat(2);
        Due.is("its letters", full.length(), 64);
        told(full, 6);
        told("n4;".repeat(21), 21);
        told("n4;".repeat(21) + "n", -1064);
        NobodyCarries x = new NobodyCarries();
        for (int i = 0; i < 64; i++) {
            x.letter(full.charAt(i));
        }
        Due.is("a letter more", x.letter('x'), -6);
        Due.is("town() of the 64 all the same", x.town(), 6);
    }

    /** The first place at which no text that begins so can be a town; by another reader than the class's own. */
    private static int firstBad(String text) {
        for (int i = 1; i <= text.length(); i++) {
            Matcher reader = FORM.matcher(text.substring(0, i));
            if (!reader.matches() && !reader.hitEnd()) {
                return i - 1;
            }
        }
        return FORM.matcher(text).matches() ? -1 : text.length();
    }

    private static void faultOfKindOne() {
        Due.sentence("Terms", "At least one STATEMENT.");
        told("", -1000);
        told(";", -1000);
        Due.sentence("Terms", "(the end, if something lacks): -1000 less the place");
        String text = "n5;w04,59;p04,720,9,9;t0004,1,999,99;";
        for (int length = 0; length <= text.length(); length++) {
            String begun = text.substring(0, length);
            boolean whole = begun.endsWith(";");
            told(begun, whole ? begun.split(";").length : -1000 - length);
        }
        Due.sentence("Terms", "kind 1 the place of the first letter with which no TOWN can go on");
        for (int place = 0; place < text.length(); place++) {
            for (int sign = 0; sign < 256; sign++) {
                String changed = text.substring(0, place) + (char) sign + text.substring(place + 1);
                int bad = firstBad(changed);
                if (bad >= 0) {
                    told(changed, -1000 - bad);
                }
            }
        }
        told("n55;", -1002);
        told("n5;;", -1003);
        told("n5;n", -1004);
        told("n5\n", -1002);
    }

    private static void faultOfKindTwo() {
        Due.sentence("Terms", "else kind 2 the place of the first letter of the first STATEMENT");
        told("n9;n1;", -2000);
        told("n4;n9;n1;", -2003);
        told("w01,60;w01,61;w00,1;", -2007);
        told("p00,0,0,0;p00,720,0,0;p00,721,0,0;", -2022);
        Due.sentence("Terms", "-1000 less the place; else kind 2");
        told("n9;x", -1003);
        told("w00,0;p99,999,9,9;t9999,0,0,0;n", -1031);
        Due.sentence("Terms", "(a number out of range,");
        told("n4;n8;", -2003);
        told("n4;w01,0;", -2003);
        told("n4;w01,61;", -2003);
        told("n4;p00,721,0,0;", -2003);
        told("p00,0,0,0;t0000,0,0,0;", -2010);
    }

    private static void behindAllAhead() {
        Due.sentence("Terms", "that, behind all ahead of it in the text, is not as it must be");
        told("n5;w34,1;", 2);
        told("w34,1;n5;", -2000);
        told("n3;w23,1;", -2003);
        told("n3;n4;w23,1;", 3);
        told("w23,1;n3;", -2006);
        told(ONE + "t0000,1,1,1;", 2);
        told("t0000,1,1,1;" + ONE, -2000);
        told("n7;p66,0,0,0;n6;", -2013);
        told("n7;p66,0,0,0;n7;", 3);
        told("n7;w06,1;w06,2;n6;", -2015);
        NobodyCarries x = Due.town("n7;");
        Due.is("places of a text ahead", Due.tell(x, "w56,1;"), 1);
        Due.is("persons of a text ahead", Due.tell(x, ONE), 1);
        Due.is("a thing of one of them", Due.tell(x, "t0066,1,1,1;"), 1);
    }

    private static void allOrNothing() {
        Due.sentence("Terms", "Without FAULT all of it comes to what there is,");
        NobodyCarries x = Due.town("n5;w01,5;p01,1,1,1;t0001,1,1,1;");
        Due.is("town()", Due.tell(x, "w12,6;p12,2,2,2;t1112,2,2,2;"), 3);
        Due.is("minutes(0, 2)", x.minutes(0, 2), 11);
        Due.is("persons", x.count(1), 2);
        Due.is("things", x.count(2), 2);
        Due.is("person(0, 2)", x.person(0, 2), 1);
        Due.is("person(1, 2)", x.person(1, 2), 2);
        Due.is("thing(0, 5)", x.thing(0, 5), 1);
        Due.is("thing(1, 5)", x.thing(1, 5), 2);
        Due.sentence("Terms", "with one nothing.");
        String[] bad = {"w00,1;", "n1;", "x", "n4"};
        int[] due = {-2037, -2037, -1037, -1039};
        for (int i = 0; i < bad.length; i++) {
            Due.is("town()", Due.tell(x, "n7;w01,1;w16,1;p66,6,6,6;t2266,6,6,6;" + bad[i]), due[i]);
            Due.is("places", x.count(0), 5);
            Due.is("minutes(0, 1)", x.minutes(0, 1), 5);
            Due.is("persons", x.count(1), 2);
            Due.is("things", x.count(2), 2);
        }
        Due.is("more behind those faults", Due.tell(x, "p33,3,3,3;t2200,1,1,1;"), 2);
        Due.is("person(2, 0)", x.person(2, 0), 3);
        Due.is("thing(2, 0)", x.thing(2, 0), 2);
    }

    private static void lettersAreNoMore() {
        Due.sentence("Promise 3", "The letters become a TOWN, and are no more (with a FAULT neither)");
        String[] texts = {"n5;", "n9;", "n", "x", ""};
        int[] due = {1, -2000, -1001, -1000, -1000};
        NobodyCarries x = new NobodyCarries();
        for (int i = 0; i < texts.length; i++) {
            Due.is("town() of " + texts[i], Due.tell(x, texts[i]), due[i]);
            Due.is("letters", x.count(5), 0);
            Due.is("town() at once again", x.town(), -1000);
        }
    }

    private static void statements() {
        Due.sentence("Terms", "STATEMENTS, each with \";\" behind: \"n\" how many PLACES (a digit;");
        told("n4", -1002);
        told("n4n4;", -1002);
        told("n;", -1001);
        told("n44;", -1002);
        told("w01,5", -1005);
        told("w01,5w", -1005);
        told("w01,55n", -1006);
        told("p00,0,0,0", -1009);
        told("p00,0,0,0t", -1009);
        told(ONE + "t0000,1,1,1", -1021);
        told(ONE + "t0000,1,1,11", -1022);
        Due.sentence("Terms", "\"w\" two digits (PLACES) \",\"");
        told("w0,5;", -1002);
        told("w010,5;", -1003);
        told("w015;", -1003);
        told("w01;", -1003);
        Due.sentence("Promise 3", "how many STATEMENTS;");
        told("n4;", 1);
        told("n4;n4;", 2);
        told("n5;w04,5;p00,0,0,0;t0004,1,1,1;", 4);
        told("n4;".repeat(21), 21);
    }

    private static void leastMinutes() {
        Due.sentence("Promise 4", "The least MINUTES;");
        NobodyCarries x = Due.town("n7;w01,60;w12,60;w23,60;w34,60;w45,60;w56,60;");
        for (int from = 0; from < 7; from++) {
            for (int to = 0; to < 7; to++) {
                Due.is("minutes(" + from + ", " + to + ")", x.minutes(from, to), 60 * Math.abs(from - to));
            }
        }
        Due.is("a shorter way", Due.tell(x, "w06,1;"), 1);
        Due.is("minutes(0, 5) about", x.minutes(0, 5), 61);
        Due.is("minutes(1, 5) about", x.minutes(1, 5), 121);
        Due.is("minutes(0, 3)", x.minutes(0, 3), 180);
        Due.is("minutes(0, 4)", x.minutes(0, 4), 121);
        Due.sentence("Promise 4", "-9 none.");
        NobodyCarries two = Due.town("n7;w01,1;w12,1;w34,1;w45,1;");
        Due.is("minutes(2, 3)", two.minutes(2, 3), -9);
        Due.is("minutes(6, 0)", two.minutes(6, 0), -9);
        Due.is("minutes(6, 6)", two.minutes(6, 6), 0);
        Due.is("minutes(3, 5)", two.minutes(3, 5), 2);
    }

    private static void ofAPerson() {
        Due.sentence("Promise 5",
                "0 told AT, 1 TO, 2 FROM, 3 KIN, 4 ROOM, 5 where he is, 6 CLOCK, 7 THINGS he carries (bits).");
        NobodyCarries x = Due.town("w12,4;p12,720,3,9;p00,0,0,0;t1112,1,1,1;t1112,1,1,1;t1112,1,1,1;");
        int[] first = {1, 2, 720, 3, 9, 1, 720, 0};
        for (int what = 0; what < first.length; what++) {
            Due.is("person(0, " + what + ")", x.person(0, what), first[what]);
        }
        Due.is("take(0, 0)", x.take(0, 0), 720);
        Due.is("take(0, 2)", x.take(0, 2), 720);
        Due.is("go(0, 2)", x.go(0, 2), 724);
        int[] then = {1, 2, 720, 3, 9, 2, 724, 5};
        for (int what = 0; what < then.length; what++) {
            Due.is("person(0, " + what + ") then", x.person(0, what), then[what]);
        }
        Due.is("person(1, 7)", x.person(1, 7), 0);
    }

    private static void ofAThing() {
        Due.sentence("Promise 6", "0, 1 OWNERS, 2 told AT, 3 TO, 4 SIZE, 5 BY, 6 WORTH,");
        NobodyCarries x = Due.town("w12,4;p12,720,3,9;p00,5,0,0;p00,0,0,0;t1212,9,999,99;t2203,1,0,0;");
        int[] first = {1, 2, 1, 2, 9, 999, 99, 1, 0, -9};
        int[] second = {2, 2, 0, 3, 1, 0, 0, 0, 0, -9};
        for (int what = 0; what < first.length; what++) {
            Due.is("thing(0, " + what + ")", x.thing(0, what), first[what]);
            Due.is("thing(1, " + what + ")", x.thing(1, what), second[what]);
        }
        Due.sentence("Promise 6", "7 where it lies (10 and the PERSON who carries it), 8 from when on it lies there (0 carried),");
        Due.is("take(0, 0)", x.take(0, 0), 720);
        Due.is("thing(0, 7) carried", x.thing(0, 7), 10);
        Due.is("thing(0, 8) carried", x.thing(0, 8), 0);
        Due.is("go(0, 2)", x.go(0, 2), 724);
        Due.is("thing(0, 2) as told", x.thing(0, 2), 1);
        Due.is("lay(0, 0)", x.lay(0, 0), 724);
        Due.is("thing(0, 7) laid", x.thing(0, 7), 2);
        Due.is("thing(0, 8) laid", x.thing(0, 8), 724);
        Due.is("take(0, 0) again", x.take(0, 0), 724);
        Due.is("thing(0, 8) carried again", x.thing(0, 8), 0);
        Due.sentence("Promise 6", "9 when it was GIVEN latest (-9 never).");
        Due.is("thing(0, 9) never", x.thing(0, 9), -9);
        Due.is("give(2, 0)", x.give(2, 0), 0);
        Due.is("thing(0, 9) at 0", x.thing(0, 9), 0);
        Due.is("give(1, 0)", x.give(1, 0), 5);
        Due.is("thing(0, 9) latest", x.thing(0, 9), 5);
        Due.is("thing(1, 9) of the other", x.thing(1, 9), -9);
    }
}
