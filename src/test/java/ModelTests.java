import java.util.Random;

/** Long runs of calls, by a fixed seed, on ClapOaths and on Model: every answer must be the same. */
public final class ModelTests {
    private static final int RUNS = 3000;
    /** An object answers as promised for so many calls. */
    private static final int CALLS = 512;
    /** How many calls may come at once, and how many the look at everything takes at the end. */
    private static final int AT_ONCE = 70;
    private static final int EVERYTHING = 127;

    private final Check check = new Check();
    private final Random random;
    private ClapOaths x;
    private Model y;
    private String label;
    private int calls;

    private ModelTests(long seed) {
        random = new Random(seed);
    }

    public static void main(String[] args) {
        ModelTests tests = new ModelTests(20261117L);
        for (int run = 0; run < RUNS; run++) {
            tests.run(run);
        }
        tests.check.end("ModelTests");
    }

    private void run(int run) {
        x = new ClapOaths();
        y = new Model();
        label = "run " + run;
        calls = 0;
        newCounty();
        for (int i = 0; i < CALLS && calls + AT_ONCE + EVERYTHING <= CALLS; i++) {
            if (random.nextInt(90) == 0) {
                newCounty();
            } else {
                call();
            }
            if (random.nextInt(12) == 0) {
                counts();
            }
        }
        everything();
        check.due(label + ": no more than " + CALLS + " calls, but " + calls, calls <= CALLS ? 1 : 0, 1);
    }

    private int upTo(int n) {
        return random.nextInt(n + 1);
    }

    /** Mostly within the bounds, at times just outside them or far off. */
    private int about(int least, int most) {
        int dice = random.nextInt(30);
        if (dice == 0) return least - 1;
        if (dice == 1) return most + 1;
        if (dice == 2) return random.nextInt();
        return least + random.nextInt(most - least + 1);
    }

    private void due(String call, long got, long want) {
        calls++;
        check.due(label + ": " + call + " on " + y.text, got, want);
    }

    private void newCounty() {
        due("wipe()", x.wipe(), y.wipe());
        String text = text();
        for (int i = 0; i < text.length(); i++) {
            due("write", x.write(text.charAt(i)), y.write(text.charAt(i)));
        }
        due("fault()", x.fault(), y.fault());
        due("county()", x.county(), y.county());
    }

    private String text() {
        StringBuilder t = new StringBuilder(random.nextInt(40) == 0 ? "" : "L");
        int persons = 0, oaths = 0, parts = upTo(16);
        for (int i = 0; i < parts; i++) {
            int dice = random.nextInt(10);
            if (i < 3 && dice > 2 || dice < 3) {
                t.append('P').append(upTo(9)).append(random.nextInt(60) == 0 ? 4 : upTo(3));
                persons++;
            } else if (dice == 3) {
                t.append('Q');
            } else if (dice < 6) {
                t.append('C').append(upTo(9)).append(upTo(9));
            } else if (persons > 1) {
                int a = random.nextInt(persons);
                int b = random.nextInt(60) == 0 ? a : (a + 1 + random.nextInt(persons - 1)) % persons;
                t.append('O').append(a).append(b).append(upTo(9));
                t.append(oaths == 0 || random.nextInt(3) == 0 ? "n" : "" + random.nextInt(oaths));
                oaths++;
            }
        }
        if (random.nextInt(6) == 0 && t.length() > 0) {
            t.setCharAt(random.nextInt(t.length()), "LPQCOn0123456789 ".charAt(upTo(16)));
        }
        if (random.nextInt(8) == 0) {
            t.setLength(upTo(t.length()));
        }
        return t.toString();
    }

    private void call() {
        int a = about(0, 4), b = about(0, 9), c = about(0, 9);
        int what = about(0, 1), n = about(1, 9);
        boolean upper = random.nextBoolean();
        switch (random.nextInt(26)) {
            case 0: case 1: case 2: due("day()", x.day(), y.day()); break;
            case 3: due("drum " + b + " " + c, x.drum(b, c), y.drum(b, c)); break;
            case 4: case 5: case 6: case 7: due("swear " + a, x.swear(a), y.swear(a)); break;
            case 8: due("form " + a, x.form(a), y.form(a)); break;
            case 9: case 10: due("move " + a + " " + b, x.move(a, b), y.move(a, b)); break;
            case 11: due("wool " + a, x.wool(a), y.wool(a)); break;
            case 12: due("undo", x.undo(), y.undo()); break;
            case 13: n = about(0, 30); due("later " + n, x.later(n, what), y.later(n, what)); break;
            case 14: due("lasts " + a, x.lasts(a), y.lasts(a)); break;
            case 15: due("best " + a + " " + n, x.best(a, n, what), y.best(a, n, what)); break;
            case 16: n = about(0, 31); due("frees " + n, x.frees(n, what), y.frees(n, what)); break;
            case 17: case 18: judge(); break;
            case 19: n = about(0, 1); due("hear", x.hear(b, what, n), y.hear(b, what, n)); break;
            case 20: unhear(); break;
            case 21: due("share " + a, x.share(a, upper), y.share(a, upper)); break;
            case 22: n = about(0, 4); due("rests " + a + " " + n, x.rests(a, n, what), y.rests(a, n, what)); break;
            case 23: n = about(1, 6); b = about(0, 10); due("comes", x.comes(a, n, b, upper), y.comes(a, n, b, upper)); break;
            case 24: years(); break;
            default: slots(what);
        }
    }

    private void unhear() {
        if (random.nextInt(4) == 0) {
            due("unhear", x.unhear(), y.unhear());
        }
    }

    private void judge() {
        int n = about(1, 4);
        long row = 0;
        for (int i = 0; i < n && n < 6; i++) {
            int doing = upTo(6), last = upTo(4);
            row = row * 1000 + (doing == 0 ? 0 : doing == 1 ? 100 + upTo(99) : doing == 4 ? 400 + 10 * last + upTo(9) : 100 * doing + last);
            row += random.nextInt(20) == 0 ? upTo(900) : 0;
        }
        row = random.nextInt(40) == 0 ? -row : row;
        due("judge " + n + " " + row, x.judge(n, row), y.judge(n, row));
    }

    private void years() {
        if (random.nextInt(3) == 0) {
            long v = random.nextLong();
            due("seed " + v, x.seed(v), y.seed(v));
        }
        int m = about(1, 30);
        due("years " + m, x.years(m), y.years(m));
    }

    private void slots(int slot) {
        if (random.nextInt(2) == 0) {
            due("keep " + slot, x.keep(slot), y.keep(slot));
        } else if (random.nextInt(2) == 0) {
            due("again " + slot, x.again(slot), y.again(slot));
        }
    }

    private void counts() {
        for (int what = -1; what <= 11; what++) {
            due("count " + what, x.count(what), y.count(what));
        }
    }

    private void everything() {
        counts();
        for (int i = -1; i <= 5; i++) {
            for (int what = -1; what <= 6; what++) {
                due("person " + i + " " + what, x.person(i, what), y.person(i, what));
                due("oath " + i + " " + what, x.oath(i, what), y.oath(i, what));
            }
        }
        due("which 0", x.which(0), y.which(0));
        due("which 1", x.which(1), y.which(1));
    }
}
