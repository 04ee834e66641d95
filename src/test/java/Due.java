/** What the tests share: answers that are due, the sentences they look at, and towns told as texts. */
final class Due {
    private static int looked = 0;
    private static int wrong = 0;
    private static int lookedOfSentence = 1;
    private static String sentence = "";

    private Due() {
    }

    static void is(String call, int got, int want) {
        looked++;
        lookedOfSentence++;
        if (got != want) {
            wrong++;
            System.out.println(sentence + call + " answered " + got + ", due is " + want);
        }
    }

    /** Names the sentence of the document that the answers behind this look at; each must have one. */
    static void sentence(String where, String words) {
        endSentence();
        sentence = where + " \"" + words + "\": ";
        lookedOfSentence = 0;
    }

    private static void endSentence() {
        if (lookedOfSentence == 0) {
            wrong++;
            System.out.println(sentence + "nothing looks at it");
        }
    }

    /** Tells a text letter by letter, and answers what town() does. */
    static int tell(NobodyCarries x, String text) {
        for (int i = 0; i < text.length(); i++) {
            is("letter " + i + " of " + text, x.letter(text.charAt(i)), i + 1);
        }
        return x.town();
    }

    /** A new object with statements told, as many at once as there is room for, that must be without fault. */
    static NobodyCarries town(String... texts) {
        NobodyCarries x = new NobodyCarries();
        String begun = "";
        for (String statement : String.join("", texts).split("(?<=;)")) {
            if (begun.length() + statement.length() > 64) {
                tellWell(x, begun);
                begun = "";
            }
            begun += statement;
        }
        tellWell(x, begun);
        return x;
    }

    private static void tellWell(NobodyCarries x, String text) {
        is("town() of " + text, tell(x, text), text.split(";").length);
    }

    static void end() {
        endSentence();
        System.out.println(looked + " answers looked at, " + wrong + " wrong");
        if (wrong != 0 || looked == 0) {
            System.exit(1);
        }
    }
}
