/** Promises 30 to 32: the image, on from it, and what is counted. */
final class ImageTest {
    public static void main(String[] args) {
        onFromAnImage();
        counts();
        Due.end();
    }

    private static void onFromAnImage() {
        NobodyCarries x = Due.town("w01,10;p01,0,0,9;p11,0,0,9;t1101,1,10,9;");
        Due.is("on() without an image", x.on(), -3);
        Due.is("take(0, 0)", x.take(0, 0), 0);
        Due.is("law(1)", x.law(1), 0);
        Due.is("image()", x.image(), 1);
        for (int times = 0; times < 2; times++) {
            Due.is("go(0, 1)", x.go(0, 1), 10);
            Due.is("lay(0, 0)", x.lay(0, 0), 10);
            Due.is("there()", x.there(), 1);
            Due.is("give(1, 0)", x.give(1, 0), 0);
            Due.is("law(3)", x.law(3), 1);
            Due.is("more is told", Due.tell(x, "n6;w01,5;w05,5;p55,0,0,9;t2255,1,1,1;"), 5);
            Due.is("on()", x.on(), 1);
            Due.is("places", x.count(0), 4);
            Due.is("persons", x.count(1), 2);
            Due.is("things", x.count(2), 1);
            Due.is("carried", x.count(3), 1);
            Due.is("minutes(0, 1)", x.minutes(0, 1), 10);
            Due.is("minutes(0, 5)", x.minutes(0, 5), -1);
            Due.is("person(0, 5)", x.person(0, 5), 0);
            Due.is("person(0, 6)", x.person(0, 6), 0);
            Due.is("thing(0, 7)", x.thing(0, 7), 10);
            Due.is("thing(0, 9)", x.thing(0, 9), -9);
            Due.is("the law", x.law(1), 1);
        }
        Due.is("refusals are not taken back", x.count(13), 1);
        Due.is("another image", Due.tell(x, "t0000,1,1,1;"), 1);
        Due.is("image()", x.image(), 2);
        Due.is("letter", x.letter('n'), 1);
        Due.is("row(9)", x.row(9), 1);
        Due.is("on()", x.on(), 2);
        Due.is("letters that are no town yet stay", x.count(5), 1);
        Due.is("the row stays", x.count(4), 1);
    }

    private static void counts() {
        NobodyCarries x = Due.town("n7;p01,0,0,9;p11,0,0,9;t1100,1,10,9;");
        Due.is("letter", x.letter('n'), 1);
        Due.is("row(9)", x.row(9), 1);
        Due.is("take(0, 0)", x.take(0, 0), 0);
        x.minutes(9, 9);
        x.law(9);
        x.law(8);
        x.go(0, 6);
        x.go(0, 6);
        x.go(0, 6);
        x.row(-1);
        x.row(10);
        x.row(11);
        int[] due = {7, 2, 1, 1, 1, 1, -9, -9, -9, -9, -9, 1, 2, 3, 1, 0, 2, -9};
        for (int what = 0; what < due.length; what++) {
            Due.is("count(" + what + ")", x.count(what), due[what]);
        }
        Due.is("count(-1)", x.count(-1), -9);
        Due.is("count(MAX)", x.count(Integer.MAX_VALUE), -9);
        Due.is("count(MIN)", x.count(Integer.MIN_VALUE), -9);
        Due.is("another what is no refusal", x.count(12), 2);
    }
}
