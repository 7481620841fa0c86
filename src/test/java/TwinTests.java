import java.util.ArrayList;
import java.util.List;
import java.util.function.Supplier;
import java.util.function.ToLongFunction;

/**
 * "What is refused changes nothing", and in questions "nothing is changed": an object on which such a call
 * was made and its twin on which it was not are the same to the ground.
 */
public final class TwinTests {
    private static final int UNKNOWN = -1, OUTSIDE = -2, STATE = -3, FULL = -4;
    private static final int[] FAR_OFF = {Integer.MIN_VALUE, Integer.MAX_VALUE};

    /** 0 plain, 1 wool, 2 deaf, 3 monk, 4 plain; oath 1 hangs on 0, 3 on 0, 4 on 3. */
    private static final String WHOLE = "LP00P41P52P63P90C33C12C99C00C55O015nO1230O239nO3410O4073";

    private record Call(String name, ToLongFunction<ClapOaths> on, long want) {
    }

    private static final Check CHECK = new Check();

    public static void main(String[] args) {
        refused("a new object", ClapOaths::new, refusedByAnyOne(0, 0), refusedByANewOne());
        refused("an empty county", () -> Check.of("L"), refusedByAnyOne(0, 0), refusedByANewOne().subList(1, 4));
        refused("midway", TwinTests::midway, refusedByAnyOne(5, 5), refusedMidway());
        refused("a full one", TwinTests::full, refusedByAnyOne(5, 5), refusedByAFullOne());
        refused("all undone", TwinTests::undone, refusedByAnyOne(5, 5), List.of(new Call("undo()", ClapOaths::undo, STATE)));
        asked("a new object", ClapOaths::new);
        asked("midway", TwinTests::midway);
        asked("a full one", TwinTests::full);
        CHECK.end("TwinTests");
    }

    /** Acts, a slot, something heard, a seed, and the text of a county to come that is not at its end. */
    private static ClapOaths midway() {
        ClapOaths x = Check.of(WHOLE);
        x.seed(-77L);
        x.hear(4, 1, 1);
        x.hear(9, 0, 0);
        x.move(4, 8);
        x.keep(0);
        x.wool(3);
        x.form(3);
        x.day();
        x.swear(0);
        x.drum(0, 1);
        Check.tell(x, "LP0");
        return x;
    }

    /** Sixty letters, five of each, more acts than the row takes, six heard, both slots. */
    private static ClapOaths full() {
        ClapOaths x = Check.of(WHOLE);
        x.seed(Long.MIN_VALUE);
        for (int i = 0; i < 6; i++) {
            x.hear(3 + i, i % 2, 1);
        }
        x.wool(0);
        x.keep(1);
        for (int i = 0; i < 14; i++) {
            x.move(i % 5, 7 - i % 3);
            x.day();
        }
        x.keep(0);
        x.swear(0);
        x.swear(1);
        for (int i = 0; i < 4; i++) {
            x.write('Q');
        }
        return x;
    }

    private static ClapOaths undone() {
        ClapOaths x = full();
        for (int i = 0; i < 14; i++) {
            x.undo();
        }
        return x;
    }

    // ---- what is refused

    private static void refused(String state, Supplier<ClapOaths> made, List<Call> calls, List<Call> more) {
        List<Call> all = new ArrayList<>(calls);
        all.addAll(more);
        String twin = Look.toTheGround(made.get());
        for (Call call : all) {
            ClapOaths x = made.get();
            CHECK.due(state + ": " + call.name, call.on.applyAsLong(x), call.want);
            CHECK.same(state + ": refused, " + call.name + " changes nothing", Look.toTheGround(x), twin);
        }
        // Many together, but with all else no more than 512 calls on one object.
        for (int from = 0; from < all.size(); from += 80) {
            ClapOaths x = made.get();
            for (Call call : all.subList(from, Math.min(all.size(), from + 80))) {
                call.on.applyAsLong(x);
            }
            CHECK.same(state + ": refused from " + from + " on they change nothing", Look.toTheGround(x), twin);
        }
    }

    private static int[] but(int least, int most) {
        return new int[] {least - 1, most + 1, FAR_OFF[0], FAR_OFF[1]};
    }

    private static void add(List<Call> calls, String name, ToLongFunction<ClapOaths> on, long want) {
        calls.add(new Call(name, on, want));
    }

    /** What every object refuses that has so many persons and oaths. */
    private static List<Call> refusedByAnyOne(int persons, int oaths) {
        List<Call> calls = new ArrayList<>();
        for (int letter : but(0, 255)) {
            add(calls, "write(" + letter + ")", x -> x.write(letter), OUTSIDE);
        }
        for (int p : but(0, persons - 1)) {
            unknownPerson(calls, p);
        }
        for (int o : but(0, oaths - 1)) {
            unknownOath(calls, o);
        }
        for (int place : but(0, 9)) {
            add(calls, "drum(" + place + ", 0)", x -> x.drum(place, 0), UNKNOWN);
            add(calls, "drum(" + place + ", 10)", x -> x.drum(place, 10), UNKNOWN);
            add(calls, "drum(0, " + place + ")", x -> x.drum(0, place), OUTSIDE);
            add(calls, "hear(" + place + ", 0, 0)", x -> x.hear(place, 0, 0), UNKNOWN);
            add(calls, "hear(" + place + ", 2, 2)", x -> x.hear(place, 2, 2), UNKNOWN);
            add(calls, "move(0, " + place + ")", x -> x.move(0, place), UNKNOWN);
        }
        for (int bit : but(0, 1)) {
            outsideOfTwo(calls, bit);
        }
        outsideNumbers(calls, oaths);
        if (persons > 0) {
            outsideOfKnown(calls, persons - 1, oaths - 1);
        }
        return calls;
    }

    private static void unknownPerson(List<Call> calls, int p) {
        add(calls, "person(" + p + ", 0)", x -> x.person(p, 0), UNKNOWN);
        add(calls, "person(" + p + ", 6)", x -> x.person(p, 6), UNKNOWN);
        add(calls, "move(" + p + ", 0)", x -> x.move(p, 0), UNKNOWN);
        add(calls, "move(" + p + ", 10)", x -> x.move(p, 10), UNKNOWN);
        add(calls, "wool(" + p + ")", x -> x.wool(p), UNKNOWN);
        add(calls, "best(" + p + ", 1, 0)", x -> x.best(p, 1, 0), UNKNOWN);
        add(calls, "best(" + p + ", 0, 2)", x -> x.best(p, 0, 2), UNKNOWN);
        add(calls, "share(" + p + ", true)", x -> x.share(p, true), UNKNOWN);
        add(calls, "share(" + p + ", false)", x -> x.share(p, false), UNKNOWN);
        add(calls, "rests(" + p + ", 0, 0)", x -> x.rests(p, 0, 0), UNKNOWN);
        add(calls, "rests(0, " + p + ", 2)", x -> x.rests(0, p, 2), UNKNOWN);
        add(calls, "rests(" + p + ", " + p + ", 1)", x -> x.rests(p, p, 1), UNKNOWN);
        add(calls, "rests(2, " + p + ", 1)", x -> x.rests(2, p, 1), UNKNOWN);
    }

    private static void unknownOath(List<Call> calls, int o) {
        add(calls, "oath(" + o + ", 0)", x -> x.oath(o, 0), UNKNOWN);
        add(calls, "oath(" + o + ", 5)", x -> x.oath(o, 5), UNKNOWN);
        add(calls, "swear(" + o + ")", x -> x.swear(o), UNKNOWN);
        add(calls, "form(" + o + ")", x -> x.form(o), UNKNOWN);
        add(calls, "lasts(" + o + ")", x -> x.lasts(o), UNKNOWN);
        add(calls, "comes(" + o + ", 1, 0, true)", x -> x.comes(o, 1, 0, true), UNKNOWN);
        add(calls, "comes(" + o + ", 1, 0, false)", x -> x.comes(o, 1, 0, false), UNKNOWN);
        add(calls, "comes(" + o + ", 0, 11, true)", x -> x.comes(o, 0, 11, true), UNKNOWN);
        add(calls, "comes(" + o + ", 7, -1, false)", x -> x.comes(o, 7, -1, false), UNKNOWN);
    }

    /** All numbers that are 0 or 1. */
    private static void outsideOfTwo(List<Call> calls, int bit) {
        add(calls, "keep(" + bit + ")", x -> x.keep(bit), UNKNOWN);
        add(calls, "again(" + bit + ")", x -> x.again(bit), UNKNOWN);
        add(calls, "later(0, " + bit + ")", x -> x.later(0, bit), OUTSIDE);
        add(calls, "frees(0, " + bit + ")", x -> x.frees(0, bit), OUTSIDE);
        add(calls, "which(" + bit + ")", x -> x.which(bit), OUTSIDE);
        add(calls, "hear(9, " + bit + ", 0)", x -> x.hear(9, bit, 0), OUTSIDE);
        add(calls, "hear(0, 1, " + bit + ")", x -> x.hear(0, 1, bit), OUTSIDE);
    }

    private static void outsideNumbers(List<Call> calls, int oaths) {
        for (int n : but(0, 30)) {
            add(calls, "later(" + n + ", 1)", x -> x.later(n, 1), OUTSIDE);
        }
        for (int bits : but(0, (1 << oaths) - 1)) {
            add(calls, "frees(" + bits + ", 0)", x -> x.frees(bits, 0), OUTSIDE);
        }
        for (int n : but(1, 4)) {
            add(calls, "judge(" + n + ", 0)", x -> x.judge(n, 0L), OUTSIDE);
        }
        long most = 1L;
        for (int n = 1; n <= 4; n++) {
            most *= 1000L;
            for (long row : new long[] {-1L, most, Long.MIN_VALUE, Long.MAX_VALUE}) {
                int doings = n;
                add(calls, "judge(" + n + ", " + row + ")", x -> x.judge(doings, row), OUTSIDE);
            }
        }
        for (int m : but(1, 30)) {
            add(calls, "years(" + m + ")", x -> x.years(m), OUTSIDE);
        }
        for (int what : but(0, 10)) {
            add(calls, "count(" + what + ")", x -> x.count(what), OUTSIDE);
        }
    }

    /** What is outside where the person and the oath are known. */
    private static void outsideOfKnown(List<Call> calls, int person, int oath) {
        for (int what : but(0, 5)) {
            add(calls, "person(" + person + ", " + what + ")", x -> x.person(person, what), OUTSIDE);
        }
        for (int what : but(0, 4)) {
            add(calls, "oath(" + oath + ", " + what + ")", x -> x.oath(oath, what), OUTSIDE);
        }
        for (int n : but(1, 9)) {
            add(calls, "best(" + person + ", " + n + ", 0)", x -> x.best(person, n, 0), OUTSIDE);
        }
        for (int what : but(0, 1)) {
            add(calls, "best(" + person + ", 9, " + what + ")", x -> x.best(person, 9, what), OUTSIDE);
            add(calls, "rests(0, " + person + ", " + what + ")", x -> x.rests(0, person, what), OUTSIDE);
            add(calls, "rests(2, 0, " + what + ")", x -> x.rests(2, 0, what), OUTSIDE);
        }
        for (int n : but(1, 6)) {
            add(calls, "comes(" + oath + ", " + n + ", 5, true)", x -> x.comes(oath, n, 5, true), OUTSIDE);
            add(calls, "comes(" + oath + ", " + n + ", 5, false)", x -> x.comes(oath, n, 5, false), OUTSIDE);
        }
        for (int tenths : but(0, 10)) {
            add(calls, "comes(" + oath + ", 6, " + tenths + ", true)", x -> x.comes(oath, 6, tenths, true), OUTSIDE);
            add(calls, "comes(" + oath + ", 6, " + tenths + ", false)", x -> x.comes(oath, 6, tenths, false), OUTSIDE);
        }
        for (int p = 0; p <= person; p++) {
            int one = p;
            add(calls, "rests(" + p + ", " + p + ", 0)", x -> x.rests(one, one, 0), OUTSIDE);
        }
        add(calls, "rests(2, 0, 0)", x -> x.rests(2, 0, 0), STATE);
        add(calls, "rests(0, 2, 1)", x -> x.rests(0, 2, 1), STATE);
        add(calls, "wool(1)", x -> x.wool(1), STATE);
        add(calls, "wool(2)", x -> x.wool(2), STATE);
    }

    private static List<Call> refusedByANewOne() {
        List<Call> calls = new ArrayList<>();
        add(calls, "county()", ClapOaths::county, STATE);
        add(calls, "undo()", ClapOaths::undo, STATE);
        add(calls, "again(0)", x -> x.again(0), STATE);
        add(calls, "again(1)", x -> x.again(1), STATE);
        return calls;
    }

    private static List<Call> refusedMidway() {
        List<Call> calls = new ArrayList<>();
        add(calls, "county()", ClapOaths::county, STATE);
        add(calls, "again(1)", x -> x.again(1), STATE);
        add(calls, "swear(0)", x -> x.swear(0), STATE);
        add(calls, "swear(4)", x -> x.swear(4), STATE);
        add(calls, "form(3)", x -> x.form(3), STATE);
        add(calls, "form(4)", x -> x.form(4), STATE);
        add(calls, "lasts(3)", x -> x.lasts(3), STATE);
        add(calls, "lasts(4)", x -> x.lasts(4), STATE);
        add(calls, "move(4, 8)", x -> x.move(4, 8), STATE);
        add(calls, "move(0, 0)", x -> x.move(0, 0), STATE);
        return calls;
    }

    private static List<Call> refusedByAFullOne() {
        List<Call> calls = new ArrayList<>();
        add(calls, "county()", ClapOaths::county, STATE);
        for (int letter : new int[] {0, 'L', 'Q', 255}) {
            add(calls, "write(" + letter + ")", x -> x.write(letter), FULL);
        }
        add(calls, "hear(0, 0, 0)", x -> x.hear(0, 0, 0), FULL);
        add(calls, "hear(9, 1, 1)", x -> x.hear(9, 1, 1), FULL);
        add(calls, "swear(0)", x -> x.swear(0), STATE);
        return calls;
    }

    // ---- what is asked

    private static void asked(String state, Supplier<ClapOaths> made) {
        String twin = Look.toTheGround(made.get());
        for (Call call : questions()) {
            ClapOaths x = made.get();
            long first = call.on.applyAsLong(x);
            CHECK.due(state + ": " + call.name + " asked again", call.on.applyAsLong(x), first);
            CHECK.same(state + ": asked, " + call.name + " changes nothing", Look.toTheGround(x), twin);
        }
    }

    private static List<Call> questions() {
        List<Call> calls = new ArrayList<>();
        add(calls, "fault()", ClapOaths::fault, 0);
        for (int what = 0; what <= 10; what++) {
            int w = what;
            add(calls, "count(" + w + ")", x -> x.count(w), 0);
            add(calls, "person(3, " + w + ")", x -> x.person(3, w), 0);
            add(calls, "oath(1, " + w + ")", x -> x.oath(1, w), 0);
        }
        for (int what = 0; what <= 1; what++) {
            int w = what;
            for (int n = 0; n <= 30; n += 5) {
                int days = n;
                add(calls, "later(" + n + ", " + w + ")", x -> x.later(days, w), 0);
            }
            add(calls, "best(0, 9, " + w + ")", x -> x.best(0, 9, w), 0);
            add(calls, "best(4, 1, " + w + ")", x -> x.best(4, 1, w), 0);
            add(calls, "frees(0, " + w + ")", x -> x.frees(0, w), 0);
            add(calls, "frees(31, " + w + ")", x -> x.frees(31, w), 0);
            add(calls, "which(" + w + ")", x -> x.which(w), 0);
            add(calls, "rests(0, 3, " + w + ")", x -> x.rests(0, 3, w), 0);
            add(calls, "rests(4, 1, " + w + ")", x -> x.rests(4, 1, w), 0);
            add(calls, "share(0, " + w + ")", x -> x.share(0, w == 1), 0);
            add(calls, "comes(0, 6, 5, " + w + ")", x -> x.comes(0, 6, 5, w == 1), 0);
        }
        for (int oath = 0; oath < 5; oath++) {
            int o = oath;
            add(calls, "lasts(" + o + ")", x -> x.lasts(o), 0);
        }
        for (long row : new long[] {0L, 409_500_199_000L, 300_200_503_000L, 600_601_000_600L}) {
            add(calls, "judge(4, " + row + ")", x -> x.judge(4, row), 0);
        }
        add(calls, "years(30), its seed put back", TwinTests::yearsWithSeedPutBack, 0);
        return calls;
    }

    private static long yearsWithSeedPutBack(ClapOaths x) {
        long was = x.seed(5L);
        long answer = x.years(30);
        x.seed(was);
        return answer;
    }
}
