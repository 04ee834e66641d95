import java.util.Random;

/** Random runs against the slow model, and wild arguments that must never throw. */
final class ModelTest {
    private static final int RUNS = 3000;
    private static final int CALLS = 150;

    private final Random random;
    private final NobodyCarries x = new NobodyCarries();
    private final Model model = new Model();

    private ModelTest(long seed) {
        random = new Random(seed);
    }

    public static void main(String[] args) {
        for (int run = 0; run < RUNS; run++) {
            ModelTest test = new ModelTest(run);
            test.someTown(run);
            for (int i = 0; i < CALLS; i++) {
                test.someCall(run);
            }
        }
        Due.end();
    }

    private void someTown(int run) {
        int texts = 2 + random.nextInt(5);
        for (int i = 0; i < texts; i++) {
            tellText(run);
        }
    }

    private void tellText(int run) {
        StringBuilder text = new StringBuilder();
        int statements = 1 + random.nextInt(7);
        for (int i = 0; i < statements; i++) {
            String more = statement();
            if (text.length() + more.length() <= 64) {
                text.append(more);
            }
        }
        if (random.nextInt(12) == 0 && text.length() > 0) {
            text.setCharAt(random.nextInt(text.length()), "nwpt;,0123456789x".charAt(random.nextInt(17)));
        }
        if (random.nextInt(20) == 0) {
            text.setLength(random.nextInt(text.length() + 1));
        }
        for (int i = 0; i < text.length(); i++) {
            due(run, "letter", x.letter(text.charAt(i)), model.letter(text.charAt(i)));
        }
        due(run, "town() of " + text, x.town(), model.town());
    }

    private String statement() {
        int places = model.count(0) + (random.nextInt(12) == 0 ? 1 : 0);
        int persons = Math.max(1, model.count(1) + (random.nextInt(12) == 0 ? 1 : 0));
        int kind = random.nextInt(12);
        if (kind == 0) {
            return "n" + random.nextInt(10) + ";";
        }
        if (kind < 6) {
            int minutes = random.nextInt(3) == 0 ? 1 + random.nextInt(60) : 5 * (1 + random.nextInt(3));
            return "w" + random.nextInt(places) + random.nextInt(places) + "," + minutes + ";";
        }
        if (kind < 9) {
            int from = random.nextInt(3) == 0 ? 600 + random.nextInt(130) : random.nextInt(60);
            return "p" + random.nextInt(places) + random.nextInt(places) + "," + from + ","
                    + random.nextInt(4) + "," + random.nextInt(10) + ";";
        }
        int by = random.nextInt(3) == 0 ? random.nextInt(1000) : random.nextInt(120);
        return "t" + random.nextInt(persons) + random.nextInt(persons) + random.nextInt(places)
                + random.nextInt(places) + "," + random.nextInt(7) + "," + by + "," + random.nextInt(100) + ";";
    }

    private void due(int run, String call, int got, int want) {
        Due.is("run " + run + ": " + call, got, want);
    }

    /** Mostly a number that is there, now and then one beside it or a wild one. */
    private int some(int many) {
        int kind = random.nextInt(40);
        if (kind == 0) {
            return random.nextInt();
        }
        if (kind < 3) {
            return random.nextBoolean() ? -1 : many;
        }
        return many == 0 ? 0 : random.nextInt(many);
    }

    private void someCall(int run) {
        int person = some(model.count(1));
        int other = some(model.count(1));
        int thing = some(model.count(2));
        int place = some(model.count(0));
        int which = random.nextInt(32);
        switch (which) {
            case 0: tellText(run); break;
            case 1: due(run, "minutes", x.minutes(place, other), model.minutes(place, other)); break;
            case 2: lookAtAll(run); break;
            case 3: setLaw(run); break;
            case 4: mayAt(run, person, thing); break;
            case 5: case 6: due(run, "take", x.take(person, thing), model.take(person, thing)); break;
            case 7: case 8: due(run, "go", x.go(person, place), model.go(person, place)); break;
            case 9: due(run, "lay", x.lay(person, thing), model.lay(person, thing)); break;
            case 10: due(run, "hand", x.hand(person, other, thing), model.hand(person, other, thing)); break;
            case 11: tarry(run, person); break;
            case 12: due(run, "give", x.give(person, thing), model.give(person, thing)); break;
            case 13: due(run, "there", x.there(), model.there()); break;
            case 14: due(run, "soonest " + thing, x.soonest(thing), model.soonest(thing)); break;
            case 15: over(run, thing); break;
            case 16: due(run, "bars " + thing, x.bars(thing), model.bars(thing)); break;
            case 17: due(run, "never", x.never(), model.never()); break;
            case 18: due(run, "why " + thing, x.why(thing), model.why(thing)); break;
            case 19: case 20: rounds(run, person, thing); break;
            case 21: each(run, person); break;
            case 22: due(run, "pay", x.pay(person), model.pay(person)); break;
            case 23: due(run, "fewest", x.fewest(), model.fewest()); break;
            case 24: due(run, "beside", x.beside(), model.beside()); break;
            case 25: due(run, "houses", x.houses(), model.houses()); break;
            case 26: days(run); break;
            case 27: case 28: row(run); break;
            case 29: due(run, "judge", x.judge(), model.judge()); break;
            case 30: due(run, "image", x.image(), model.image()); break;
            default: due(run, "on", x.on(), model.on()); break;
        }
    }

    private void lookAtAll(int run) {
        for (int i = -1; i < 7; i++) {
            for (int what = -1; what < 11; what++) {
                due(run, "person " + i + " " + what, x.person(i, what), model.person(i, what));
                due(run, "thing " + i + " " + what, x.thing(i, what), model.thing(i, what));
            }
        }
        for (int what = -1; what < 18; what++) {
            due(run, "count " + what, x.count(what), model.count(what));
        }
    }

    private void setLaw(int run) {
        int law = some(5);
        due(run, "law " + law, x.law(law), model.law(law));
    }

    private void mayAt(int run, int person, int thing) {
        int minute = random.nextBoolean() ? some(10000) : 719 + random.nextInt(2);
        if (thing >= 0 && thing < model.count(2) && random.nextInt(3) > 0) {
            minute = Math.max(0, model.thing(thing, 9)) + new int[] {-1, 0, 59, 60}[random.nextInt(4)];
        }
        due(run, "may", x.may(person, thing, minute), model.may(person, thing, minute));
    }

    private void tarry(int run, int person) {
        int m = random.nextInt(4) == 0 ? some(601) : 1 + some(40);
        due(run, "tarry", x.tarry(person, m), model.tarry(person, m));
    }

    private void over(int run, int thing) {
        for (int i = -2; i < 6; i++) {
            due(run, "over " + thing + " " + i, x.over(thing, i), model.over(thing, i));
        }
    }

    private void rounds(int run, int person, int thing) {
        int what = some(2);
        due(run, "round", x.round(person, thing, what), model.round(person, thing, what));
    }

    private void each(int run, int person) {
        due(run, "each -1", x.each(-1), model.each(-1));
        due(run, "each " + person, x.each(person), model.each(person));
    }

    private void days(int run) {
        int n = random.nextInt(6) == 0 ? some(15) : 1 + random.nextInt(3);
        int z = random.nextInt();
        due(run, "days " + n + " " + z, x.days(n, z), model.days(n, z));
    }

    private void row(int run) {
        int things = model.count(2);
        for (int i = 0; i < things; i++) {
            int v = random.nextInt(3) == 0 ? 9 : some(Math.min(10, model.count(1) + 1));
            due(run, "row " + v, x.row(v), model.row(v));
        }
        if (random.nextInt(4) > 0) {
            due(run, "judge", x.judge(), model.judge());
        }
    }
}
