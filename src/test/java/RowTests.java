import java.util.ArrayList;
import java.util.List;

/** The edges of promises 14, 28 and 29: the row of acts when it is empty, full and more than full; what is kept and gone on from. */
public final class RowTests {
    private static final int UNKNOWN = -1, STATE = -3;

    /** Plain at 2 and 4, a monk at 6; two oaths, the second hangs on the first; a clap, then a quiet day. */
    private static final String FEN = "LP20P40P63O015nO1230C33Q";

    private static final String ENDLESS = "LP20P41P63O015nO1230Q";

    /** A doing on an object. */
    private interface Act {
        int on(ClapOaths x);
    }

    /** All six sorts, each of which can be in this order, again and again. */
    private static final Act[] SORTS = {
        ClapOaths::day, x -> x.drum(3, 1), x -> x.swear(0), x -> x.form(0), x -> x.move(0, x.person(0, 0) == 9 ? 1 : 9), x -> x.wool(2)};

    private static final Check CHECK = new Check();

    public static void main(String[] args) {
        emptyRow();
        eachSortIsAnAct();
        everyLengthOfRow();
        fullAndUndoneAndFullAgain();
        actsThatChangeNothingToBeSeen();
        noActs();
        undoneAtEachSort();
        slotBounds();
        slotsAreTwo();
        keptIsACopy();
        keptOver();
        goneOnFromIsNoAct();
        keptOfNobody();
        CHECK.end("RowTests");
    }

    private static void due(String what, long got, long want) {
        CHECK.due(what, got, want);
    }

    private static void emptyRow() {
        ClapOaths x = new ClapOaths();
        due("14: a new object", x.undo(), STATE);
        ClapOaths y = Check.of(FEN);
        due("14: a new county", y.undo(), STATE);
        due("30: no acts", y.count(9), 0);
        y.day();
        due("30: one", y.count(9), 1);
        due("14: none is left", y.undo(), 0);
        due("14: no more", y.undo(), STATE);
        due("14: nor again", y.undo(), STATE);
        due("30: no acts", y.count(9), 0);
    }

    private static void eachSortIsAnAct() {
        for (int sort = 0; sort < SORTS.length; sort++) {
            ClapOaths x = Check.of(FEN);
            if (sort == 2) {
                x.form(0);
            }
            int before = x.count(9);
            String look = Look.standing(x);
            due("14: sort " + sort + " can be", SORTS[sort].on(x) >= 0 ? 1 : 0, 1);
            due("30: it is one act", x.count(9), before + 1);
            due("14: sort " + sort + " is undone", x.undo(), before);
            CHECK.same("14: all is as it was ahead of sort " + sort, Look.standing(x), look);
        }
    }

    /** The acts of an endless row: each can be, and leaves something else behind. */
    private static int act(ClapOaths x, int i) {
        int round = i / 8;
        return switch (i % 8) {
            case 0 -> x.move(round % 2, round % 4 < 2 ? 9 : 0);
            case 1 -> x.drum(6, 0);
            case 2 -> x.wool(2);
            case 3, 6 -> x.swear(1);
            case 4 -> x.form(1);
            default -> x.day();
        };
    }

    /** How all stood ahead of each of so many acts. */
    private static List<String> looks(int acts) {
        ClapOaths x = Check.of(ENDLESS);
        List<String> looks = new ArrayList<>();
        for (int i = 0; i < acts; i++) {
            looks.add(Look.standing(x));
            due("14: act " + i + " can be", act(x, i) >= 0 ? 1 : 0, 1);
            due("30: acts in the row", x.count(9), Math.min(14, i + 1));
        }
        return looks;
    }

    private static void everyLengthOfRow() {
        for (int acts = 0; acts <= 30; acts++) {
            // The looks are taken of a twin, so that each object stays below 512 calls.
            List<String> looks = looks(acts);
            ClapOaths x = Check.of(ENDLESS);
            for (int i = 0; i < acts; i++) {
                act(x, i);
            }
            int row = Math.min(14, acts);
            for (int left = row - 1; left >= 0; left--) {
                due("14: of " + acts, x.undo(), left);
                CHECK.same("14: of " + acts + ", " + left + " left", Look.standing(x), looks.get(acts - row + left));
            }
            due("14: of " + acts + " no more", x.undo(), STATE);
        }
    }

    private static void fullAndUndoneAndFullAgain() {
        ClapOaths x = Check.of(FEN);
        for (int i = 0; i < 14; i++) {
            x.day();
        }
        due("30: full", x.count(9), 14);
        due("14: one less", x.undo(), 13);
        x.day();
        due("30: full", x.count(9), 14);
        for (int left = 13; left >= 0; left--) {
            due("14: none was forgotten", x.undo(), left);
        }
        due("14: back at the first day", x.count(4), 0);
        for (int i = 0; i < 15; i++) {
            x.day();
        }
        x.undo();
        x.undo();
        x.day();
        x.day();
        for (int left = 13; left >= 0; left--) {
            due("14: one was forgotten", x.undo(), left);
        }
        due("14: back at the second day", x.count(4), 1);
    }

    private static void actsThatChangeNothingToBeSeen() {
        ClapOaths x = Check.of("LP20P90O015n");
        due("9: nobody is freed", x.drum(5, 0), 0);
        due("30: an act all the same", x.count(9), 1);
        x.wool(0);
        x.wool(0);
        due("30: in and out are two", x.count(9), 3);
        due("14: undone", x.undo(), 2);
        due("14: it has wool in", x.count(7), 1);
        due("14: undone", x.undo(), 1);
        due("14: the drum", x.undo(), 0);
    }

    /** Refused calls, questions and all that is no act leave the row as it is. */
    private static void noActs() {
        ClapOaths x = Check.of(FEN);
        x.day();
        Act[] others = {
            y -> y.drum(10, 0), y -> y.drum(0, 10), y -> y.swear(7), y -> y.swear(1), y -> y.form(7), y -> y.form(0),
            y -> y.move(0, 2), y -> y.move(0, 10), y -> y.move(3, 0), y -> y.wool(3), y -> y.wool(-1),
            y -> y.later(30, 1), y -> y.lasts(0), y -> y.best(0, 9, 1), y -> y.frees(3, 0), y -> y.judge(4, 0L),
            y -> y.hear(0, 0, 0), y -> y.which(0), ClapOaths::unhear, y -> y.share(0, true), y -> y.rests(0, 1, 0),
            y -> y.comes(0, 6, 5, true), y -> (int) y.seed(9L), y -> y.years(30), y -> y.keep(0), y -> y.again(1),
            y -> y.write('X'), ClapOaths::county, ClapOaths::wipe, ClapOaths::fault, y -> y.person(0, 0), y -> y.oath(0, 0)};
        for (int i = 0; i < others.length; i++) {
            others[i].on(x);
            due("30: no act is number " + i, x.count(9), 1);
        }
        due("14: the day is undone", x.undo(), 0);
        due("14: the day", x.count(4), 0);
    }

    /** What is undone gives back the day's clap, its worth and the oaths that it freed, those that hang too. */
    private static void undoneAtEachSort() {
        ClapOaths x = Check.of("LP00P00P92O019nO0280C00");
        due("8: both are free", x.day(), 2);
        due("14: undone", x.undo(), 0);
        due("14: both are sworn", x.count(5), 3);
        due("11: let off", x.form(0), 2);
        x.undo();
        due("14: both are sworn", x.count(5), 3);
        x.drum(0, 9);
        x.swear(0);
        x.undo();
        due("14: the first is free", x.count(5), 0);
        x.undo();
        due("14: both are sworn", x.count(5), 3);
        x.move(2, 0);
        x.undo();
        due("14: where it was", x.person(2, 0), 9);
    }

    private static void slotBounds() {
        ClapOaths x = Check.of(FEN);
        x.day();
        for (int slot : new int[] {-1, 2, 3, 32, Integer.MIN_VALUE, Integer.MAX_VALUE}) {
            due("28: slot " + slot, x.keep(slot), UNKNOWN);
            due("29: slot " + slot, x.again(slot), UNKNOWN);
        }
        due("29: none was kept in 0", x.again(0), STATE);
        due("29: none was kept in 1", x.again(1), STATE);
        due("28: the first", x.keep(0), 1);
        due("29: none was kept in 1", x.again(1), STATE);
        due("28: the last", x.keep(1), 1);
        due("29: the first", x.again(0), 1);
        due("29: the last", x.again(1), 1);
    }

    private static void slotsAreTwo() {
        ClapOaths x = Check.of(FEN);
        String first = Look.standing(x);
        x.keep(0);
        x.move(1, 9);
        x.wool(0);
        x.day();
        x.form(1);
        String second = Look.standing(x);
        x.keep(1);
        x.day();
        x.day();
        due("29: the first", x.again(0), 0);
        CHECK.same("29: the first", Look.standing(x), first);
        due("29: the second", x.again(1), 1);
        CHECK.same("29: the second", Look.standing(x), second);
        due("29: the first again", x.again(0), 0);
        CHECK.same("29: the first again", Look.standing(x), first);
    }

    private static void keptIsACopy() {
        ClapOaths x = Check.of(FEN);
        x.keep(1);
        String look = Look.standing(x);
        for (int sort : new int[] {4, 5, 3, 0, 1, 2}) {
            SORTS[sort].on(x);
        }
        x.undo();
        due("29: acts and what is undone do not touch it", x.again(1), 0);
        CHECK.same("29: as it was kept", Look.standing(x), look);
        x.day();
        due("29: nor does what is done behind it", x.again(1), 0);
        CHECK.same("29: as it was kept", Look.standing(x), look);
    }

    private static void keptOver() {
        ClapOaths x = Check.of(FEN);
        due("28: at first", x.keep(0), 0);
        x.day();
        x.day();
        due("28: kept over it", x.keep(0), 2);
        x.day();
        due("29: the last one kept", x.again(0), 2);
        due("29: the other slot is empty", x.again(1), STATE);
    }

    private static void goneOnFromIsNoAct() {
        ClapOaths x = Check.of(FEN);
        x.day();
        due("28: the row stays", x.keep(0), 1);
        due("28: the row stays", x.count(9), 1);
        x.move(0, 9);
        due("29: none were kept: nothing is changed", x.again(1), STATE);
        due("29: so the row stays", x.count(9), 2);
        due("29: gone on from", x.again(0), 1);
        due("29: the row is empty", x.count(9), 0);
        due("29: nothing to undo", x.undo(), STATE);
        for (int i = 0; i < 15; i++) {
            x.day();
        }
        due("29: a full row, too", x.again(0), 1);
        due("29: is empty", x.count(9), 0);
        x.day();
        due("14: back to what was gone on from", x.undo(), 0);
        due("14: and no farther", x.undo(), STATE);
        due("14: its day", x.count(4), 1);
    }

    private static void keptOfNobody() {
        ClapOaths x = new ClapOaths();
        due("28: nobody", x.keep(1), 0);
        x.day();
        x.day();
        due("28: nobody, later", x.keep(0), 2);
        due("29: nobody", x.again(1), 0);
        due("30: the day", x.count(4), 0);
        due("29: nobody, later", x.again(0), 2);
        due("30: the day", x.count(4), 2);
        Check.tell(x, "L");
        due("5: a county", x.county(), 0);
        due("29: is gone", x.again(0), STATE);
        due("29: is gone", x.again(1), STATE);
    }
}
