/** Terms, the image, and promises 30 to 32: every edge that they name. */
final class ImageEdgesTest {
    public static void main(String[] args) {
        howManyThings();
        allThatIsTold();
        now();
        theLaw();
        inMind();
        againAndAgain();
        anotherImage();
        none();
        whatIsCountedStays();
        counts();
        Due.end();
    }

    private static void howManyThings() {
        Due.sentence("Promise 30", "THE IMAGE is taken: how many THINGS.");
        NobodyCarries x = new NobodyCarries();
        Due.is("image() of nothing", x.image(), 0);
        Due.is("town()", Due.tell(x, "p00,0,0,9;p00,0,0,9;t0000,1,1,1;"), 3);
        Due.is("image() of one", x.image(), 1);
        Due.is("town()", Due.tell(x, "t1100,1,1,1;".repeat(5)), 5);
        Due.is("image() of six", x.image(), 6);
        Due.is("take(0, 1)", x.take(0, 1), 0);
        Due.is("image(), one is carried", x.image(), 6);
        Due.sentence("Promise 31", "ON from it: how many THINGS.");
        Due.is("on() with six", x.on(), 6);
        NobodyCarries y = new NobodyCarries();
        Due.is("image() of nothing", y.image(), 0);
        Due.is("town()", Due.tell(y, "p00,0,0,0;t0000,1,1,1;"), 2);
        Due.is("on() with nothing", y.on(), 0);
    }

    private static void allThatIsTold() {
        Due.sentence("Terms", "THE IMAGE: all that is told, NOW;");
        NobodyCarries x = Due.town("n5;w01,10;p01,7,1,9;p10,5,0,0;t0110,3,99,9;");
        Due.is("image()", x.image(), 1);
        Due.is("town()", Due.tell(x, "n7;w01,1;w12,1;w66,1;"), -2015);
        Due.is("town()", Due.tell(x, "n7;w01,1;w16,1;p66,6,6,6;t2266,6,6,6;"), 5);
        Due.is("on()", x.on(), 1);
        Due.is("places", x.count(0), 5);
        Due.is("persons", x.count(1), 2);
        Due.is("things", x.count(2), 1);
        Due.is("minutes(0, 1)", x.minutes(0, 1), 10);
        Due.is("minutes(1, 4)", x.minutes(1, 4), -9);
        Due.is("minutes(1, 6)", x.minutes(1, 6), -1);
        int[] person = {0, 1, 7, 1, 9, 0, 7, 0};
        for (int what = 0; what < person.length; what++) {
            Due.is("person(0, " + what + ")", x.person(0, what), person[what]);
        }
        int[] thing = {0, 1, 1, 0, 3, 99, 9, 1, 0, -9};
        for (int what = 0; what < thing.length; what++) {
            Due.is("thing(0, " + what + ")", x.thing(0, what), thing[what]);
        }
        Due.is("ways told anew", Due.tell(x, "n7;w16,2;p11,0,0,0;t2211,1,1,1;"), 4);
        Due.is("minutes(0, 6) is not the earlier one", x.minutes(0, 6), 12);
        Due.is("person(2, 0)", x.person(2, 0), 1);
        Due.is("thing(1, 7)", x.thing(1, 7), 1);
    }

    private static void now() {
        Due.sentence("Terms", "ON from it all is as then.");
        NobodyCarries x = Due.town("w01,10;p01,0,0,9;p01,0,0,9;t1101,1,99,9;t1101,1,99,9;");
        Due.is("take(0, 0)", x.take(0, 0), 0);
        Due.is("go(0, 1)", x.go(0, 1), 10);
        Due.is("give(1, 0)", x.give(1, 0), 0);
        Due.is("image()", x.image(), 2);
        Due.is("lay(0, 0)", x.lay(0, 0), 10);
        Due.is("there()", x.there(), 1);
        Due.is("tarry(1, 30)", x.tarry(1, 30), 30);
        Due.is("give(1, 0)", x.give(1, 0), 30);
        Due.is("give(1, 1)", x.give(1, 1), 30);
        Due.is("go(0, 0)", x.go(0, 0), 20);
        Due.is("take(0, 1)", x.take(0, 1), 20);
        Due.is("on()", x.on(), 2);
        int[] person = {1, 10, 1};
        for (int i = 0; i < person.length; i++) {
            Due.is("person(0, " + (5 + i) + ")", x.person(0, 5 + i), person[i]);
        }
        Due.is("person(1, 6)", x.person(1, 6), 0);
        Due.is("thing(0, 7)", x.thing(0, 7), 10);
        Due.is("thing(0, 8)", x.thing(0, 8), 0);
        Due.is("thing(0, 9)", x.thing(0, 9), 0);
        Due.is("thing(1, 7)", x.thing(1, 7), 0);
        Due.is("thing(1, 9)", x.thing(1, 9), -9);
        Due.is("there()", x.there(), 0);
        Due.is("carried", x.count(3), 1);
        Due.is("lay(0, 0) again", x.lay(0, 0), 10);
    }

    private static void theLaw() {
        Due.sentence("Terms", "all is as then.");
        NobodyCarries x = Due.town("p00,0,0,9;t0000,1,1,1;");
        Due.is("law(3)", x.law(3), 0);
        Due.is("image()", x.image(), 1);
        Due.is("law(1)", x.law(1), 3);
        Due.is("may(0, 0, 0)", x.may(0, 0, 0), 0);
        Due.is("on()", x.on(), 1);
        Due.is("may(0, 0, 0) as then", x.may(0, 0, 0), 1);
        Due.is("the law as then", x.law(0), 3);
    }

    /** What more persons and things have left behind in mind is nothing to what is as then. */
    private static void inMind() {
        Due.sentence("Terms", "ON from it all is as then.");
        NobodyCarries x = Due.town("w01,10;p01,50,0,9;p01,60,0,9;t0001,1,99,9;");
        Due.is("image()", x.image(), 1);
        for (int times = 0; times < 2; times++) {
            Due.is("soonest(0)", x.soonest(0), 70);
            Due.is("over(0, 0)", x.over(0, 0), 1);
            Due.is("each(-1)", x.each(-1), 9);
            Due.is("pay(1)", x.pay(1), 9);
            Due.is("beside()", x.beside(), 10);
            Due.is("houses()", x.houses(), -9);
            Due.is("never()", x.never(), 0);
            Due.is("fewest()", x.fewest(), 0);
            Due.is("round(1, 0, 0)", x.round(1, 0, 0), 70);
            Due.is("town()", Due.tell(x, "w01,5;p01,0,0,9;p10,0,0,9;t0001,1,99,99;t1110,1,99,99;"), 5);
            Due.is("soonest(0) then", x.soonest(0), 5);
            Due.is("each(-1) then", x.each(-1), 207);
            Due.is("never() then", x.never(), 0);
            Due.is("beside() then", x.beside(), 0);
            Due.is("on()", x.on(), 1);
        }
        NobodyCarries alone = Due.town("w01,10;p01,0,0,9;t0001,1,99,9;");
        Due.is("image()", alone.image(), 1);
        Due.is("town()", Due.tell(alone, "p01,0,0,9;"), 1);
        Due.is("why(0) then", alone.why(0), 0);
        Due.is("on()", alone.on(), 1);
        Due.is("why(0)", alone.why(0), 1);
        Due.is("bars(0)", alone.bars(0), 1);
        Due.is("days(14, 1)", alone.days(14, 1), 0);
    }

    private static void againAndAgain() {
        Due.sentence("Promise 31", "ON from it");
        NobodyCarries x = Due.town("p00,0,0,9;");
        Due.is("image()", x.image(), 0);
        for (int times = 0; times < 5; times++) {
            Due.is("tarry(0, 5)", x.tarry(0, 5), 5);
            Due.is("on()", x.on(), 0);
            Due.is("on() at once again", x.on(), 0);
            Due.is("CLOCK", x.person(0, 6), 0);
        }
    }

    private static void anotherImage() {
        Due.sentence("Promise 30", "THE IMAGE is taken");
        NobodyCarries x = Due.town("p00,0,0,9;");
        Due.is("image()", x.image(), 0);
        Due.is("tarry(0, 5)", x.tarry(0, 5), 5);
        Due.is("image() takes the place", x.image(), 0);
        Due.is("tarry(0, 5)", x.tarry(0, 5), 10);
        Due.is("on()", x.on(), 0);
        Due.is("CLOCK of the later one", x.person(0, 6), 5);
        Due.is("image() does not change what is", x.tarry(0, 1), 6);
    }

    private static void none() {
        Due.sentence("Promise 31", "-3 there is none.");
        NobodyCarries x = Due.town("p00,0,0,9;");
        Due.is("on()", x.on(), -3);
        Due.is("on() again", x.on(), -3);
        Due.is("refusals -3", x.count(13), 2);
        Due.is("persons", x.count(1), 1);
        Due.is("image()", x.image(), 0);
        Due.is("on()", x.on(), 0);
        Due.is("refusals -3", x.count(13), 2);
    }

    /** How many refusals there were is told by no one and is not now; NOTES.md says so of letters and row, too. */
    private static void whatIsCountedStays() {
        Due.sentence("Terms", "nothing changes but how many there were");
        NobodyCarries x = Due.town("p00,0,0,9;");
        Due.is("law(9)", x.law(9), -2);
        Due.is("image()", x.image(), 0);
        Due.is("law(9)", x.law(9), -2);
        Due.is("letter", x.letter('n'), 1);
        Due.is("row(0)", x.row(0), 1);
        Due.is("on()", x.on(), 0);
        Due.is("refusals -2", x.count(12), 2);
        Due.is("letters", x.count(5), 1);
        Due.is("in the ROW", x.count(4), 1);
    }

    private static void counts() {
        Due.sentence("Promise 32", "0 PLACES, 1 PERSONS, 2 THINGS, 3 THINGS that are carried, 4 in the ROW, 5 letters,");
        NobodyCarries x = Due.town("n2;", "p01,0,0,9;".repeat(6), "t0000,1,1,1;".repeat(6));
        x.law(3);
        for (int t = 0; t < 6; t++) {
            Due.is("carried", x.count(3), t);
            Due.is("take(" + t + ", " + t + ")", x.take(t, t), 0);
            Due.is("row(" + t + ")", x.row(t), t + 1);
        }
        for (int i = 1; i <= 64; i++) {
            Due.is("letter " + i, x.letter(255), i);
        }
        int[] due = {2, 6, 6, 6, 6, 64, -9, -9, -9, -9, -9, 0, 0, 0, 0, 0, 0, -9};
        for (int what = 0; what < due.length; what++) {
            Due.is("count(" + what + ")", x.count(what), due[what]);
        }
    }
}
