import java.math.BigInteger;
import java.util.Arrays;

/** The edges of promises 15 to 27: the least and the greatest number that each question takes, what it answers there, and none. */
public final class AskTests {
    private static final int UNKNOWN = -1, OUTSIDE = -2, STATE = -3, FULL = -4, NONE = -9;
    private static final int[] FAR_OFF = {Integer.MIN_VALUE, Integer.MIN_VALUE + 1, -2, Integer.MAX_VALUE};

    /** Plain at 2 and 4, a monk at 6; two oaths, the second hangs on the first; a clap, then a quiet day. */
    private static final String FEN = "LP20P40P63O015nO1230C33Q";
    private static final String FIVE_OATHS = "LP00P90P50P30P62O011nO122nO233nO344nO405n";

    private static final Check CHECK = new Check();

    public static void main(String[] args) {
        laterBounds();
        laterComesRound();
        lastsAtEachSky();
        lastsRefused();
        bestBounds();
        bestOfLikeOnes();
        freesBounds();
        freesLeast();
        freesWhatIsFree();
        judgeBounds();
        judgeForms();
        judgeGoesOn();
        hearBounds();
        sixHeard();
        whichOfEach();
        whichNoneAndLast();
        shareInLeastTerms();
        shareOfFive();
        restsOfEachNumber();
        restsOfKinds();
        restsRefused();
        comesBounds();
        comesAtEachChance();
        comesOverSkies();
        seedBounds();
        seedWraps();
        yearsBounds();
        yearsMove();
        yearsSwear();
        yearsWool();
        yearsDays();
        countBounds();
        CHECK.end("AskTests");
    }

    private static void due(String what, long got, long want) {
        CHECK.due(what, got, want);
    }

    // ---- 15

    private static void laterBounds() {
        ClapOaths x = Check.of("LP00P00O017n");
        for (int n = 0; n <= 30; n++) {
            due("15: sworn in " + n, x.later(n, 0), 1);
            due("15: worth in " + n, x.later(n, 1), 7 * n);
        }
        x.day();
        due("15: in 0 days", x.later(0, 1), 7);
        due("15: in 30 days", x.later(30, 1), 217);
        for (int what = 0; what <= 1; what++) {
            due("15: -1 days", x.later(-1, what), OUTSIDE);
            due("15: 31 days", x.later(31, what), OUTSIDE);
            for (int far : FAR_OFF) {
                due("15: " + far + " days", x.later(far, what), OUTSIDE);
                due("15: what " + far, x.later(what, far), OUTSIDE);
            }
        }
        due("15: what -1", x.later(0, -1), OUTSIDE);
        due("15: what 2", x.later(30, 2), OUTSIDE);
        ClapOaths nobody = new ClapOaths();
        due("15: of nobody", nobody.later(30, 0), 0);
        due("15: of nobody", nobody.later(30, 1), 0);
    }

    private static void laterComesRound() {
        ClapOaths x = Check.of("LP20P40QQQQC33O015n");
        for (int day = 0; day <= 4; day++) {
            due("15: just ahead of the clap", x.later(4 - day, 0), 1);
            due("15: just behind it", x.later(5 - day, 0), 0);
            due("15: the worth of the days ahead of it", x.later(30, 1), 20);
            x.day();
        }
        x.swear(0);
        due("15: the fifth day is the first sky's", x.count(4), 5);
        due("15: the next round, ahead of the clap", x.later(4, 0), 1);
        due("15: the next round, behind it", x.later(5, 0), 0);
    }

    // ---- 16

    private static void lastsAtEachSky() {
        for (int skies = 1; skies <= 5; skies++) {
            for (int clap = 0; clap < skies; clap++) {
                ClapOaths x = Check.of("LP20P40P92O015nO1290" + "Q".repeat(clap) + "C33" + "Q".repeat(skies - 1 - clap));
                due("16: by the clap itself", x.lasts(0), clap + 1);
                due("16: what hangs on it", x.lasts(1), clap + 1);
                for (int day = 0; day <= clap; day++) {
                    x.day();
                }
                x.swear(0);
                due("16: a whole round", x.lasts(0), skies);
            }
        }
    }

    private static void lastsRefused() {
        ClapOaths x = Check.of("LP20P40O015nO0160");
        due("16: no sky", x.lasts(0), NONE);
        due("16: no sky", x.lasts(1), NONE);
        due("16: beyond the last", x.lasts(2), UNKNOWN);
        due("16: ahead of the first", x.lasts(-1), UNKNOWN);
        for (int far : FAR_OFF) {
            due("16: oath " + far, x.lasts(far), UNKNOWN);
        }
        x.form(1);
        due("16: free", x.lasts(1), STATE);
        due("16: the other is not", x.lasts(0), NONE);
        x.swear(1);
        due("16: sworn again", x.lasts(1), NONE);
        due("16: quiet ones", Check.of("LP20P40O015nQQQQQ").lasts(0), NONE);
        due("16: too far off", Check.of("LP20P40O015nC30C40C20C21C51").lasts(0), NONE);
        due("16: of nobody", new ClapOaths().lasts(0), UNKNOWN);
    }

    // ---- 17

    private static void bestBounds() {
        ClapOaths x = Check.of("LP00P00O017nC01");
        for (int n = 1; n <= 9; n++) {
            due("17: out of hearing for " + n, x.best(1, n, 0), 2);
            due("17: its worth for " + n, x.best(1, n, 1), 7 * n);
        }
        due("17: 0 days", x.best(0, 0, 0), OUTSIDE);
        due("17: 10 days", x.best(0, 10, 1), OUTSIDE);
        due("17: what -1", x.best(0, 1, -1), OUTSIDE);
        due("17: what 2", x.best(0, 9, 2), OUTSIDE);
        due("17: beyond the last", x.best(2, 1, 0), UNKNOWN);
        due("17: ahead of the first", x.best(-1, 1, 0), UNKNOWN);
        due("17: UNKNOWN is named first", x.best(2, 0, 0), UNKNOWN);
        due("17: UNKNOWN is named first", x.best(-1, 1, 2), UNKNOWN);
        for (int far : FAR_OFF) {
            due("17: person " + far, x.best(far, 1, 0), UNKNOWN);
            due("17: days " + far, x.best(0, far, 0), OUTSIDE);
            due("17: what " + far, x.best(0, 1, far), OUTSIDE);
        }
        due("17: of nobody", new ClapOaths().best(0, 1, 0), UNKNOWN);
    }

    private static void bestOfLikeOnes() {
        due("17: the least, wherever it is", Check.of("LP50P90O017n").best(0, 9, 0), 0);
        due("17: a deaf one's", Check.of("LP52P03O017nC09").best(0, 1, 0), 0);
        due("17: one without an oath", Check.of("LP50P00P00O127nC00").best(0, 1, 0), 0);
        due("17: the last place alone", Check.of("LP00P00O017nC08").best(0, 1, 0), 9);
        due("17: no place", Check.of("LP00P00O017nC09").best(0, 9, 0), 0);
        due("17: no place", Check.of("LP00P00O017nC09").best(0, 9, 1), 0);
        due("17: the first place alone", Check.of("LP90P90O017nC98").best(0, 1, 0), 0);
        due("17: with wool in", Check.of("LP01P00O017nC09").best(0, 1, 0), 5);
        // The second day's clap is heard at 0 to 4.
        ClapOaths x = Check.of("LP90P40O017nC40C04");
        due("17: by one day", x.best(0, 1, 0), 0);
        due("17: by one day", x.best(0, 1, 1), 7);
        due("17: by two days", x.best(0, 2, 0), 5);
        due("17: by two days", x.best(0, 2, 1), 14);
        ClapOaths y = Check.of("LP00P00O017n");
        y.day();
        y.day();
        due("17: with what is there already", y.best(0, 1, 1), 21);
    }

    // ---- 18

    private static void freesBounds() {
        String[] texts = {"L", "LP00P90O011n", "LP00P90O011nO011n", "LP00P90O011nO011nO011n",
            "LP00P90O011nO011nO011nO011n", "LP00P90O011nO011nO011nO011nO011n"};
        for (int oaths = 0; oaths <= 5; oaths++) {
            ClapOaths x = Check.of(texts[oaths]);
            int all = (1 << oaths) - 1;
            due("18: none of " + oaths, x.frees(0, 0), 0);
            due("18: none of " + oaths, x.frees(0, 1), 0);
            due("18: all of " + oaths, x.frees(all, 0), oaths == 0 ? 0 : 5);
            due("18: all of " + oaths, x.frees(all, 1), oaths == 0 ? 0 : 4);
            due("18: one more", x.frees(all + 1, 0), OUTSIDE);
            due("18: one more", x.frees(all + 1, 1), OUTSIDE);
            due("18: -1", x.frees(-1, 0), OUTSIDE);
            due("18: what -1", x.frees(all, -1), OUTSIDE);
            due("18: what 2", x.frees(all, 2), OUTSIDE);
            for (int far : FAR_OFF) {
                due("18: oaths " + far, x.frees(far, 0), OUTSIDE);
                due("18: what " + far, x.frees(0, far), OUTSIDE);
            }
        }
    }

    private static void freesDue(String text, int oaths, int loud, int place) {
        due("18: how loud for " + oaths + " of " + text, Check.of(text).frees(oaths, 0), loud);
        due("18: where for " + oaths + " of " + text, Check.of(text).frees(oaths, 1), place);
    }

    private static void freesLeast() {
        freesDue("LP00P00O011n", 1, 0, 0);
        freesDue("LP90P90O011n", 1, 0, 9);
        freesDue("LP90P91O011n", 1, 0, 9);
        freesDue("LP40P50O011n", 1, 1, 4);
        freesDue("LP31P51O011n", 1, 2, 4);
        freesDue("LP01P81O011n", 1, 8, 4);
        freesDue("LP01P91O011n", 1, NONE, NONE);
        freesDue("LP01P90O011n", 1, 6, 3);
        freesDue("LP02P90O011n", 1, NONE, NONE);
        freesDue("LP02P93O011n", 1, 0, 9);
        freesDue("LP02P02O011n", 1, NONE, NONE);
        // The second hangs on the first, whose persons are near: by the first it goes, too.
        freesDue("LP00P10P92O011nO0210", 3, 1, 0);
        freesDue("LP00P10P92O011nO0210", 2, 1, 0);
        freesDue("LP00P10P92O011nO021n", 2, NONE, NONE);
        freesDue(FIVE_OATHS, 1, 5, 4);
        freesDue(FIVE_OATHS, 2, 2, 7);
        freesDue(FIVE_OATHS, 4, 1, 4);
        freesDue(FIVE_OATHS, 7, 5, 4);
        freesDue(FIVE_OATHS, 8, NONE, NONE);
        freesDue(FIVE_OATHS, 31, NONE, NONE);
    }

    private static void freesWhatIsFree() {
        ClapOaths x = Check.of("LP00P90P02O011nO022n");
        due("18: the deaf one's", x.frees(3, 0), NONE);
        x.form(1);
        due("18: which is free, then", x.frees(3, 0), 5);
        due("18: which is free, then", x.frees(2, 0), 0);
        due("18: which is free, then", x.frees(2, 1), 0);
        x.wool(0);
        due("18: wool as it is now", x.frees(1, 0), 6);
        x.move(1, 0);
        due("18: places as they are now", x.frees(1, 0), 0);
    }

    // ---- 19

    private static void judgeBounds() {
        ClapOaths x = Check.of(FEN);
        long most = 1L;
        for (int n = 1; n <= 4; n++) {
            most *= 1000L;
            due("19: nothing but days, " + n, x.judge(n, 0L), NONE);
            due("19: the greatest row, " + n, x.judge(n, most - 1L), 0);
            due("19: one figure more, " + n, x.judge(n, most), OUTSIDE);
            due("19: below 0, " + n, x.judge(n, -1L), OUTSIDE);
            due("19: far below, " + n, x.judge(n, Long.MIN_VALUE), OUTSIDE);
            due("19: far above, " + n, x.judge(n, Long.MAX_VALUE), OUTSIDE);
            // 4294967296: cut to an int it would be 0.
            due("19: 2 to the power of 32, " + n, x.judge(n, 1L << 32), n == 4 ? 0 : OUTSIDE);
            due("19: the greatest drum, " + n, x.judge(n, 199L * (most / 1000L)), NONE);
        }
        due("19: 0 doings", x.judge(0, 0L), OUTSIDE);
        due("19: 5 doings", x.judge(5, 0L), OUTSIDE);
        due("19: -1 doings", x.judge(-1, 0L), OUTSIDE);
        for (int far : FAR_OFF) {
            due("19: " + far + " doings", x.judge(far, 0L), OUTSIDE);
        }
    }

    private static void judgeForms() {
        // One of each kind at 5, and an oath that is free; whatever can be by a call can be here.
        ClapOaths x = Check.of("LP50P51P52P53O011nO0220O034n");
        x.form(2);
        for (int figures = 0; figures <= 999; figures++) {
            due("19: the doing " + figures, x.judge(1, figures), canBe(figures) ? NONE : 0);
            if (figures % 400 == 399) {
                x = Check.of("LP50P51P52P53O011nO0220O034n");
                x.form(2);
            }
        }
    }

    private static boolean canBe(int figures) {
        int second = figures / 10 % 10;
        int third = figures % 10;
        return switch (figures / 100) {
            case 0 -> figures == 0;
            case 1 -> true;
            case 2 -> figures == 202;
            case 3, 6 -> second == 0 && third <= 1;
            case 4 -> second <= 3 && third != 5;
            case 5 -> figures == 500 || figures == 503;
            default -> false;
        };
    }

    private static void judgeGoesOn() {
        ClapOaths x = Check.of(FEN);
        due("19: each place, 0", x.judge(4, 200_000_000_000L), 0);
        due("19: each place, 1", x.judge(4, 199_602_000_000L), 1);
        due("19: each place, 2", x.judge(4, 409_429_602_000L), 2);
        due("19: each place, 3", x.judge(4, 409_429_419_409L), 3);
        due("19: none", x.judge(4, 409_429_419_400L), NONE);
        due("19: the first of two", x.judge(4, 602_602_602_602L), 0);
        due("19: sworn at that time", x.judge(4, 300_200_600_601L), 3);
        due("19: sworn at that time", x.judge(4, 300_200_201_601L), NONE);
        due("19: a clap, sworn again, a quiet day", x.judge(4, 200_000_600L), NONE);
        due("19: nothing is changed", x.count(4) + x.count(9), 0);
        x.day();
        x.swear(0);
        due("19: a quiet day", x.judge(2, 600L), NONE);
        due("19: and then the first clap again", x.judge(3, 600L), 2);
        ClapOaths y = new ClapOaths();
        due("19: of nobody a day", y.judge(1, 0L), NONE);
        due("19: of nobody a drum", y.judge(1, 100L), NONE);
        for (long row : new long[] {200L, 300L, 400L, 500L, 600L}) {
            due("19: of nobody " + row, y.judge(1, row), 0);
        }
    }

    // ---- 20, 21, 22

    private static void hearBounds() {
        for (int full = 0; full <= 1; full++) {
            ClapOaths x = new ClapOaths();
            for (int i = 0; i < 6 * full; i++) {
                x.hear(0, 0, 1);
            }
            for (int wrong : new int[] {-1, 10, Integer.MIN_VALUE, Integer.MAX_VALUE}) {
                due("20: place " + wrong, x.hear(wrong, 0, 0), UNKNOWN);
                due("20: UNKNOWN is named first", x.hear(wrong, 2, 0), UNKNOWN);
                due("20: UNKNOWN is named first", x.hear(wrong, 0, 2), UNKNOWN);
            }
            for (int wrong : new int[] {-1, 2, Integer.MIN_VALUE, Integer.MAX_VALUE}) {
                due("20: wool " + wrong, x.hear(9, wrong, 0), OUTSIDE);
                due("20: heard " + wrong, x.hear(0, 1, wrong), OUTSIDE);
            }
            due("20: the refused are not heard", x.count(10), 6 * full);
            due("20: the last place", x.hear(9, 1, 1), full == 1 ? FULL : 1);
        }
    }

    private static void sixHeard() {
        ClapOaths x = new ClapOaths();
        for (int round = 0; round < 2; round++) {
            for (int i = 1; i <= 6; i++) {
                due("20: " + i, x.hear(i == 6 ? 9 : 0, 0, 1), i);
                due("30: " + i, x.count(10), i);
            }
            // Heard at 0 and at 9: the sixth counts as well as the first.
            due("22: by all six", x.which(0), 30);
            due("20: one more", x.hear(5, 0, 0), FULL);
            due("22: which does not count", x.which(0), 30);
            due("21: all six", x.unhear(), 6);
            due("21: none is left", x.unhear(), 0);
            due("22: all there are", x.which(0), 100);
            due("22: the first of all", x.which(1), 0);
        }
    }

    private static void whichOfEach() {
        for (int place = 0; place <= 9; place++) {
            for (int wool = 0; wool <= 1; wool++) {
                int heard = 0, first = NONE, firstNot = NONE;
                for (int clap = 0; clap < 100; clap++) {
                    int reach = wool == 1 ? clap % 10 / 2 : clap % 10;
                    boolean hears = Math.abs(clap / 10 - place) <= reach;
                    heard += hears ? 1 : 0;
                    first = hears && first == NONE ? clap : first;
                    firstNot = !hears && firstNot == NONE ? clap : firstNot;
                }
                ClapOaths x = new ClapOaths();
                x.hear(place, wool, 1);
                due("22: heard at " + place, x.which(0), heard);
                due("22: heard at " + place, x.which(1), first);
                x.unhear();
                x.hear(place, wool, 0);
                due("22: not heard at " + place, x.which(0), 100 - heard);
                due("22: not heard at " + place, x.which(1), firstNot);
            }
        }
    }

    private static void whichNoneAndLast() {
        ClapOaths x = new ClapOaths();
        x.hear(0, 0, 1);
        x.hear(4, 1, 0);
        x.hear(9, 1, 1);
        due("22: one is left", x.which(0), 1);
        due("22: the last of all", x.which(1), 99);
        x.hear(9, 0, 0);
        due("22: none is left", x.which(0), 0);
        due("22: none is left", x.which(1), NONE);
        for (int wrong : new int[] {-1, 2, Integer.MIN_VALUE, Integer.MAX_VALUE}) {
            due("22: what " + wrong, x.which(wrong), OUTSIDE);
        }
    }

    // ---- 23

    private static void shareDue(ClapOaths x, int person, int above, int below) {
        due("23: above, of " + person, x.share(person, true), above);
        due("23: below, of " + person, x.share(person, false), below);
    }

    private static void shareInLeastTerms() {
        for (int worth = 0; worth <= 9; worth++) {
            ClapOaths x = Check.of("LP00P90P00O01" + worth + "n");
            boolean even = worth % 2 == 0;
            shareDue(x, 0, even ? worth / 2 : worth, even ? 1 : 2);
            shareDue(x, 1, even ? worth / 2 : worth, even ? 1 : 2);
            shareDue(x, 2, 0, 1);
            x.form(0);
            shareDue(x, 0, 0, 1);
            for (int wrong : new int[] {-1, 3, Integer.MIN_VALUE, Integer.MAX_VALUE}) {
                shareDue(x, wrong, UNKNOWN, UNKNOWN);
            }
        }
        shareDue(new ClapOaths(), 0, UNKNOWN, UNKNOWN);
    }

    private static void shareOfFive() {
        ClapOaths x = Check.of(FIVE_OATHS);
        shareDue(x, 0, 3, 1);
        shareDue(x, 1, 3, 2);
        shareDue(x, 2, 5, 2);
        shareDue(x, 3, 7, 2);
        shareDue(x, 4, 9, 2);
        x.form(4);
        shareDue(x, 4, 2, 1);
        shareDue(x, 0, 1, 2);
        shareDue(Check.of("LP00P00O019nO019nO109nO109nO019n"), 1, 45, 2);
    }

    // ---- 24

    private static void restsDue(String text, int howMany, int first) {
        due("24: how many of " + text, Check.of(text).rests(0, 1, 0), howMany);
        due("24: the first of " + text, Check.of(text).rests(0, 1, 1), first);
    }

    private static void restsOfEachNumber() {
        // The clap at 1, loud by 1, is heard at 0 without wool; 2 hears it, 3 is deaf.
        String four = "LP00P00P00P92C11";
        restsDue(four + "O010nO120nO0291O1390", 0, NONE);
        restsDue(four, 1, 0);
        restsDue(four + "O029n", 1, 10);
        restsDue(four + "O129n", 1, 1);
        restsDue(four + "O029nO129n", 1, 11);
        restsDue(four + "O015n", 2, 1);
        restsDue(four + "O011n", 3, 0);
        restsDue(four + "O021n", 2, 0);
        restsDue(four + "O021nO121n", 4, 0);
        restsDue(four + "O010n", 1, 0);
        // Each one's oath hangs on the other's.
        restsDue(four + "O020nO120nO0291O1290", 2, 0);
        due("24: the other way round", Check.of(four + "O029n").rests(1, 0, 1), 1);
        due("24: no sky", Check.of("LP00P00O019n").rests(0, 1, 1), 0);
        due("24: no sky", Check.of("LP00P00O019n").rests(0, 1, 0), 1);
    }

    private static void restsOfKinds() {
        // One of kind wool has wool in by either choice, and need not pay for it.
        restsDue("LP01P00P00C11O029n", 1, 0);
        restsDue("LP01P01P00C11O029nO129n", 1, 0);
        restsDue("LP03P00P92C11O029n", 1, 10);
        restsDue("LP03P03C11O019n", 2, 0);
        ClapOaths x = Check.of("LP00P00P00C11QO029n");
        x.wool(0);
        due("24: wool that is in now is chosen anew", x.rests(0, 1, 1), 10);
        x.wool(2);
        due("24: a third one's wool stays in", x.rests(0, 1, 1), 0);
        x.wool(2);
        x.day();
        due("24: by the sky of the day", x.rests(0, 1, 1), 0);
        woolIsChosenAnew();
        ClapOaths free = Check.of("LP00P00P00C11O029n");
        free.form(0);
        due("24: what is free is worth nothing", free.rests(0, 1, 1), 0);
    }

    /** Of each two one has an oath of its own to keep: it pays for its wool, though it has it in now. */
    private static void woolIsChosenAnew() {
        for (int keeper = 0; keeper < 5; keeper++) {
            for (int other = 0; other < 5; other++) {
                if (other != keeper) {
                    int third = (0 != keeper && 0 != other) ? 0 : (1 != keeper && 1 != other) ? 1 : 2;
                    ClapOaths x = Check.of("LP00P00P00P00P00C11O" + keeper + third + "9n");
                    x.wool(keeper);
                    x.wool(other);
                    due("24: chosen anew", x.rests(keeper, other, 1), 10);
                    due("24: chosen anew", x.rests(other, keeper, 1), 1);
                    due("24: chosen anew", x.rests(keeper, other, 0), 1);
                    due("24: what is in stays in", x.count(7), (1 << keeper) + (1 << other));
                }
            }
        }
    }

    private static void restsRefused() {
        ClapOaths x = Check.of("LP00P03P02P01P92");
        for (int wrong : new int[] {-1, 5, Integer.MIN_VALUE, Integer.MAX_VALUE}) {
            due("24: one " + wrong, x.rests(wrong, 0, 0), UNKNOWN);
            due("24: other " + wrong, x.rests(0, wrong, 0), UNKNOWN);
            due("24: UNKNOWN ahead of both are one", x.rests(wrong, wrong, 0), UNKNOWN);
            due("24: UNKNOWN ahead of what", x.rests(0, wrong, 2), UNKNOWN);
            due("24: UNKNOWN ahead of what", x.rests(wrong, 0, -1), UNKNOWN);
            due("24: UNKNOWN ahead of DEAF", x.rests(2, wrong, 0), UNKNOWN);
            due("24: UNKNOWN ahead of DEAF", x.rests(wrong, 4, 0), UNKNOWN);
        }
        for (int wrong : new int[] {-1, 2, Integer.MIN_VALUE, Integer.MAX_VALUE}) {
            due("24: what " + wrong, x.rests(0, 1, wrong), OUTSIDE);
            due("24: what ahead of DEAF", x.rests(2, 0, wrong), OUTSIDE);
            due("24: what ahead of DEAF", x.rests(0, 4, wrong), OUTSIDE);
        }
        for (int person = 0; person < 5; person++) {
            due("24: both are one, " + person, x.rests(person, person, 0), OUTSIDE);
        }
        int[][] deaf = {{2, 0}, {0, 2}, {4, 1}, {3, 4}, {2, 4}};
        for (int[] two : deaf) {
            due("24: one is deaf", x.rests(two[0], two[1], 0), STATE);
            due("24: one is deaf", x.rests(two[0], two[1], 1), STATE);
        }
        due("24: a plain one and one of wool", x.rests(0, 3, 0), 1);
        due("24: a monk and one of wool", x.rests(1, 3, 1), 0);
    }

    // ---- 25

    private static void comesDue(ClapOaths x, int oath, int n, int tenths, long above, long below) {
        String what = "oath " + oath + " in " + n + " days by " + tenths + " tenths";
        BigInteger common = BigInteger.valueOf(above).gcd(BigInteger.valueOf(below));
        due("25: above, " + what, x.comes(oath, n, tenths, true), above / common.longValue());
        due("25: below, " + what, x.comes(oath, n, tenths, false), below / common.longValue());
    }

    private static void comesBounds() {
        ClapOaths x = Check.of("LP20P40C33O015nO011n");
        for (int side = 0; side <= 1; side++) {
            boolean upper = side == 1;
            for (int wrong : new int[] {-1, 2, Integer.MIN_VALUE, Integer.MAX_VALUE}) {
                due("25: oath " + wrong, x.comes(wrong, 1, 0, upper), UNKNOWN);
                due("25: UNKNOWN is named first", x.comes(wrong, 0, 0, upper), UNKNOWN);
                due("25: UNKNOWN is named first", x.comes(wrong, 1, 11, upper), UNKNOWN);
            }
            for (int wrong : new int[] {-1, 0, 7, Integer.MIN_VALUE, Integer.MAX_VALUE}) {
                due("25: days " + wrong, x.comes(1, wrong, 0, upper), OUTSIDE);
                due("25: days " + wrong, x.comes(0, wrong, 10, upper), OUTSIDE);
            }
            for (int wrong : new int[] {-1, 11, Integer.MIN_VALUE, Integer.MAX_VALUE}) {
                due("25: tenths " + wrong, x.comes(1, 1, wrong, upper), OUTSIDE);
                due("25: tenths " + wrong, x.comes(0, 6, wrong, upper), OUTSIDE);
            }
            due("25: of nobody", new ClapOaths().comes(0, 1, 0, upper), UNKNOWN);
        }
    }

    private static void comesAtEachChance() {
        for (int tenths = 0; tenths <= 10; tenths++) {
            ClapOaths x = Check.of("LP20P40P92C33O015nO1290O029n");
            long above = 1, below = 1;
            for (int n = 1; n <= 6; n++) {
                above *= tenths;
                below *= 10;
                comesDue(x, 0, n, tenths, above, below);
                comesDue(x, 1, n, tenths, above, below);
                comesDue(x, 2, n, tenths, 1, 1);
            }
            x.form(0);
            comesDue(x, 0, 1, tenths, 0, 1);
            comesDue(x, 1, 6, tenths, 0, 1);
        }
    }

    private static void comesOverSkies() {
        ClapOaths x = Check.of("LP20P40C33QC90QQO015n");
        int[] claps = {1, 1, 1, 1, 1, 2};
        for (int n = 1; n <= 6; n++) {
            comesDue(x, 0, n, 3, claps[n - 1] == 1 ? 3 : 9, claps[n - 1] == 1 ? 10 : 100);
        }
        for (int day = 0; day < 4; day++) {
            x.day();
            x.swear(0);
        }
        due("25: the last sky", x.count(4), 4);
        comesDue(x, 0, 1, 3, 1, 1);
        comesDue(x, 0, 2, 3, 3, 10);
        comesDue(x, 0, 6, 3, 3, 10);
        ClapOaths none = Check.of("LP20P40O015n");
        comesDue(none, 0, 6, 0, 1, 1);
    }

    // ---- 26, 27

    private static void seedBounds() {
        ClapOaths x = new ClapOaths();
        long[] seeds = {0L, 1L, -1L, Long.MAX_VALUE, Long.MIN_VALUE, 1L << 32, 0L};
        long was = 0L;
        for (long seed : seeds) {
            due("26: what it was", x.seed(seed), was);
            was = seed;
        }
        Check.tell(x, FEN);
        x.seed(5L);
        x.county();
        due("26: a county leaves it", x.seed(6L), 5L);
    }

    private static long next(long seed) {
        BigInteger times = new BigInteger("6364136223846793005");
        BigInteger more = new BigInteger("1442695040888963407");
        return BigInteger.valueOf(seed).multiply(times).add(more).longValue();
    }

    private static void seedWraps() {
        ClapOaths x = new ClapOaths();
        for (long seed : new long[] {0L, 1L, -1L, 2L, Long.MAX_VALUE, Long.MIN_VALUE, 123456789012345678L}) {
            long want = seed;
            for (int m = 1; m <= 30; m++) {
                want = next(want);
                x.seed(seed);
                due("27: nobody's oaths", x.years(m), 0);
                due("27: the seed behind " + m, x.seed(0L), want);
            }
            x = new ClapOaths();
        }
        upperBits();
    }

    /** Seeds whose next number is below 0: its upper bits count as they stand, without a sign. */
    private static void upperBits() {
        ClapOaths x = Check.of("LP30P60O019n");
        int below = 0;
        for (long seed = 0; seed < 200; seed++) {
            long then = next(seed);
            BigInteger whole = BigInteger.valueOf(then).mod(BigInteger.ONE.shiftLeft(64));
            int number = whole.shiftRight(33).mod(BigInteger.valueOf(40)).intValue();
            x.seed(seed);
            due("27: the number " + number, x.years(1), number >= 3 && number <= 6 ? 0 : 1);
            below += then < 0 ? 1 : 0;
        }
        due("27: some of them are below 0", below > 50 ? 1 : 0, 1);
    }

    private static void yearsBounds() {
        ClapOaths x = Check.of("LP02P02O019nO019n");
        x.seed(77L);
        for (int wrong : new int[] {-1, 0, 31, Integer.MIN_VALUE, Integer.MAX_VALUE}) {
            due("27: " + wrong, x.years(wrong), OUTSIDE);
        }
        due("27: the refused leave the seed", x.seed(77L), 77L);
        for (int m = 1; m <= 30; m++) {
            due("27: each time two", x.years(m), 2 * m);
        }
    }

    private static void yearsDue(ClapOaths x, int want, int... numbers) {
        x.seed(Seeds.whoseNextAre(numbers));
        due("27: by " + Arrays.toString(numbers), x.years(numbers.length), want);
    }

    private static String withDeafAt(int person, String told, String deaf) {
        return "L" + deaf.repeat(person) + told + deaf.repeat(4 - person);
    }

    /** A monk's oath with a deaf one tells which drums, loud by 3, the monk hears: at 0 those up to 3, at 9 those from 6 on. */
    private static void yearsMove() {
        for (int person = 0; person < 5; person++) {
            int other = person == 0 ? 1 : 0;
            ClapOaths x = Check.of(withDeafAt(person, "P53", "P52") + "O" + person + other + "9n");
            for (int drum = 0; drum <= 9; drum++) {
                yearsDue(x, drum <= 3 ? 1 : 2, 10 + 2 * person, drum);
                yearsDue(x, drum >= 6 ? 1 : 2, 11 + 2 * person, drum);
            }
        }
        ClapOaths four = Check.of("LP02P02P02P03O039n");
        yearsDue(four, 2, 18, 19);
        yearsDue(four, 3, 11, 13, 10);
        // It is there already, so it can not be moved: nothing happens.
        yearsDue(four, 1, 16, 0);
        yearsDue(four, 2, 16, 4);
    }

    private static void yearsSwear() {
        for (int oath = 0; oath < 5; oath++) {
            ClapOaths x = Check.of("LP00P92O011nO011nO011nO011nO011n");
            yearsDue(x, 5, 20 + oath);
            x.form(oath);
            for (int number = 20; number <= 24; number++) {
                yearsDue(x, number == 20 + oath ? 5 : 4, number);
            }
        }
        ClapOaths hangs = Check.of("LP00P92O011nO0110");
        hangs.form(0);
        yearsDue(hangs, 0, 21);
        yearsDue(hangs, 3, 20, 21);
        yearsDue(hangs, 0, 22, 24);
    }

    /** With wool in the monk hears drums as far as 1. */
    private static void yearsWool() {
        for (int person = 0; person < 5; person++) {
            int other = person == 0 ? 1 : 0;
            ClapOaths x = Check.of(withDeafAt(person, "P53", "P51") + "O" + person + other + "9n");
            for (int number = 25; number <= 29; number++) {
                boolean own = number == 25 + person;
                yearsDue(x, own ? 2 : 1, number, 3);
                yearsDue(x, 1, number, 4);
            }
            yearsDue(x, 2, 25 + person, 25 + person, 3);
        }
    }

    private static void yearsDays() {
        ClapOaths x = Check.of("LP00P92P92O019nO129nP13O329nQC11");
        yearsDue(x, 3, 30);
        yearsDue(x, 3, 39);
        yearsDue(x, 5, 30, 39);
        yearsDue(x, 6, 9, 30);
        x.day();
        yearsDue(x, 2, 35);
        yearsDue(x, 2 + 2 + 3, 35, 36, 22);
        due("27: from the day that it is", x.count(4), 1);
        ClapOaths nobody = new ClapOaths();
        for (int number = 0; number < 40; number++) {
            yearsDue(nobody, 0, number);
        }
    }

    // ---- 30

    private static void countBounds() {
        ClapOaths x = Check.of(FEN);
        due("30: 0", x.count(0), FEN.length());
        due("30: 10", x.count(10), 0);
        for (int wrong : new int[] {-1, 11, Integer.MIN_VALUE, Integer.MAX_VALUE}) {
            due("30: " + wrong, x.count(wrong), OUTSIDE);
            due("6: what " + wrong, x.person(0, wrong), OUTSIDE);
            due("7: what " + wrong, x.oath(0, wrong), OUTSIDE);
        }
        due("6: what 6", x.person(2, 6), OUTSIDE);
        due("7: what 5", x.oath(1, 5), OUTSIDE);
    }
}
