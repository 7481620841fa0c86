/** Each promise of the document by hand: ordinary inputs, the edges that it names, and wrong inputs. */
public final class PromiseTests {
    private static final int UNKNOWN = -1, OUTSIDE = -2, STATE = -3, FULL = -4, NONE = -9;

    /** 0 plain at 2, 1 plain at 4, 2 monk at 6; two oaths, the second hangs on the first; a clap, then a quiet day. */
    private static final String FEN = "LP20P40P63O015nO1230C33Q";
    /** One of each kind at 5: 0 plain, 1 wool, 2 deaf, 3 monk; an oath of 0 with each other one; no sky. */
    private static final String KINDS = "LP50P51P52P53O011nO022nO034n";

    private static final Check CHECK = new Check();

    public static void main(String[] args) {
        newObject();
        write();
        wipe();
        fault();
        county();
        person();
        oath();
        day();
        drum();
        swear();
        form();
        move();
        wool();
        undo();
        later();
        lasts();
        best();
        frees();
        judge();
        hear();
        unhear();
        which();
        share();
        rests();
        comes();
        seed();
        years();
        keep();
        again();
        count();
        CHECK.end("PromiseTests");
    }

    private static void due(String what, long got, long want) {
        CHECK.due(what, got, want);
    }

    private static void newObject() {
        ClapOaths x = new ClapOaths();
        for (int what = 0; what <= 10; what++) {
            due("1: count(" + what + ")", x.count(what), 0);
        }
        due("1: seed", x.seed(5), 0);
        due("1: again", x.again(0), STATE);
        due("1: again", x.again(1), STATE);
        due("1: undo", x.undo(), STATE);
    }

    private static void write() {
        ClapOaths x = new ClapOaths();
        due("2: -1", x.write(-1), OUTSIDE);
        due("2: 256", x.write(256), OUTSIDE);
        due("2: 0", x.write(0), 1);
        due("2: 255", x.write(255), 2);
        for (int i = 3; i <= 60; i++) {
            due("2: letter " + i, x.write('L'), i);
        }
        due("2: the 61st", x.write('L'), FULL);
        due("2: OUTSIDE ahead of FULL", x.write(256), OUTSIDE);
        due("2: length", x.count(0), 60);
    }

    private static void wipe() {
        ClapOaths x = Check.of(FEN);
        due("3: how long", x.wipe(), FEN.length());
        due("3: again", x.wipe(), 0);
        due("3: the county stays", x.count(1), 3);
        due("3: room again", x.write('L'), 1);
    }

    private static void faultOf(String text, int want) {
        ClapOaths x = new ClapOaths();
        Check.tell(x, text);
        due("4: fault of " + text, x.fault(), want);
        due("5: county of " + text, x.county() < 0 ? 1 : 0, want == NONE ? 0 : 1);
    }

    private static void fault() {
        faultOf("", 0);
        faultOf("P", 0);
        faultOf("l", 0);
        faultOf("L", NONE);
        faultOf("LL", 1);
        faultOf("LP", 2);
        faultOf("LP9", 3);
        faultOf("LP93", NONE);
        faultOf("LP94", 3);
        faultOf("LP:0", 2);
        faultOf("LQ", NONE);
        faultOf("LC", 2);
        faultOf("LC99", NONE);
        faultOf("LC9n", 3);
        faultOf("LO", 1);
        faultOf("LP00O", 4);
        faultOf("LP00P00O", 8);
        faultOf("LP00P00O2", 8);
        faultOf("LP00P00O00", 9);
        faultOf("LP00P00O02", 9);
        faultOf("LP00P00O10n", 10);
        faultOf("LP00P00O105", 11);
        faultOf("LP00P00O1050", 11);
        faultOf("LP00P00O10:n", 10);
        faultOf("LP00P00O10/n", 10);
        faultOf("LP00P00O105N", 11);
        faultOf("LP00P00O105n", NONE);
        faultOf("LP00P00O105nO0191", 16);
        faultOf("LP00P00O105nO0190", NONE);
        faultOf("LQQQQQ", NONE);
        faultOf("LQC00QC00QQ", 10);
        faultOf("LQC00QC00QC", 10);
        faultOf("LP00P00P00P00P00", NONE);
        faultOf("LP00P00P00P00P00P", 16);
        faultOf("LP00P00O010nO010nO010nO010nO010n", NONE);
        faultOf("LP00P00O010nO010nO010nO010nO010nO", 32);
        faultOf("LQ" + (char) 0, 2);
        faultOf("LQ" + (char) 255 + "XYZ", 2);
    }

    private static void county() {
        ClapOaths x = new ClapOaths();
        Check.tell(x, FEN);
        due("5: counts", x.county(), 322);
        due("5: the text stays", x.count(0), FEN.length());
        x.hear(3, 0, 1);
        x.seed(77);
        x.day();
        x.move(0, 9);
        x.wool(0);
        x.keep(0);
        x.write('X');
        due("5: a fault", x.county(), STATE);
        due("5: which changes nothing", x.count(4), 1);
        due("5: nor the row", x.count(9), 3);
        Check.tell(x, FEN);
        due("5: anew", x.county(), 322);
        due("5: day", x.count(4), 0);
        due("5: worth", x.count(6), 0);
        due("5: sworn", x.count(5), 3);
        due("5: wool", x.count(7), 0);
        due("5: place", x.person(0, 0), 2);
        due("5: row", x.count(9), 0);
        due("5: kept is gone", x.again(0), STATE);
        due("5: heard stays", x.count(10), 1);
        due("5: seed stays", x.seed(0), 77);
        Check.tell(x, "L");
        due("5: nobody", x.county(), 0);
        due("5: nobody there", x.person(0, 0), UNKNOWN);
        due("5: no oath sworn", x.count(5), 0);
        due("5: all five", Check.of("LP00P01P02P03P90QQQQC99O019nO1280O2371O3462O4053").count(3), 5);
    }

    private static void person() {
        ClapOaths x = Check.of(FEN);
        int[] monk = {6, 3, 0, 2, 2, 1};
        for (int what = 0; what < monk.length; what++) {
            due("6: person(2, " + what + ")", x.person(2, what), monk[what]);
        }
        due("6: oaths of 1", x.person(1, 3), 3);
        x.form(1);
        due("6: told ones", x.person(1, 3), 3);
        due("6: sworn ones", x.person(1, 4), 1);
        x.day();
        due("6: a quiet sky", x.person(1, 5), 0);
        due("6: unknown", x.person(3, 0), UNKNOWN);
        due("6: unknown", x.person(-1, 9), UNKNOWN);
        due("6: outside", x.person(0, 6), OUTSIDE);
        due("6: outside", x.person(0, -1), OUTSIDE);
        ClapOaths y = Check.of(KINDS + "C77");
        due("6: wool in by kind", y.person(1, 2), 1);
        due("6: none in", y.person(3, 2), 0);
        due("6: deaf", y.person(2, 5), 0);
        due("6: wool hears at half", y.person(1, 5), 1);
        y.move(1, 3);
        due("6: and no farther", y.person(1, 5), 0);
        y.move(1, 4);
        due("6: half is cut", y.person(1, 5), 1);
    }

    private static void oath() {
        ClapOaths x = Check.of(FEN);
        int[] second = {1, 2, 3, 0, 1};
        for (int what = 0; what < second.length; what++) {
            due("7: oath(1, " + what + ")", x.oath(1, what), second[what]);
        }
        due("7: hangs on none", x.oath(0, 3), NONE);
        x.form(1);
        due("7: free", x.oath(1, 4), 0);
        due("7: unknown", x.oath(2, 0), UNKNOWN);
        due("7: unknown ahead of outside", x.oath(-1, 5), UNKNOWN);
        due("7: outside", x.oath(0, 5), OUTSIDE);
        due("7: outside", x.oath(0, -1), OUTSIDE);
    }

    private static void day() {
        ClapOaths x = Check.of(FEN);
        x.move(0, 9);
        x.move(2, 9);
        due("8: one hears", x.day(), 0);
        due("8: worth", x.count(6), 8);
        due("8: quiet", x.day(), 0);
        due("8: worth", x.count(6), 16);
        due("8: the day", x.count(4), 2);
        x.move(0, 0);
        due("8: both hear, the other hangs", x.day(), 2);
        due("8: no worth of free ones", x.count(6), 16);
        ClapOaths y = Check.of("LP00P00P00O019nO019nO019nO019nO019n");
        for (int i = 1; i <= 230; i++) {
            y.day();
            due("8: worth by " + i, y.count(6), Math.min(9999, 45 * i));
        }
        due("8: no sky is quiet", y.count(5), 31);
    }

    private static void drum() {
        ClapOaths x = Check.of(KINDS);
        due("9: a deaf one never", x.drum(5, 0), 2);
        due("9: left", x.count(5), 2);
        due("9: no day", x.count(4), 0);
        due("9: nothing more", x.drum(5, 9), 0);
        ClapOaths y = Check.of(FEN);
        due("9: the monk alone", y.drum(9, 3), 1);
        due("9: nobody", y.drum(0, 1), 0);
        due("9: one of two", y.drum(0, 3), 0);
        due("9: both", y.drum(3, 1), 1);
        due("9: unknown", y.drum(10, 10), UNKNOWN);
        due("9: unknown", y.drum(-1, 0), UNKNOWN);
        due("9: outside", y.drum(0, 10), OUTSIDE);
        due("9: outside", y.drum(0, -1), OUTSIDE);
        due("9: the refused are no acts", y.count(9), 4);
    }

    private static void swear() {
        ClapOaths x = Check.of(FEN);
        due("10: sworn already", x.swear(0), STATE);
        x.form(0);
        due("10: it hangs on a free one", x.swear(1), STATE);
        due("10: refused is no act", x.count(9), 1);
        due("10: one", x.swear(0), 1);
        due("10: two", x.swear(1), 2);
        due("10: unknown", x.swear(2), UNKNOWN);
        due("10: unknown", x.swear(-1), UNKNOWN);
    }

    private static void form() {
        ClapOaths x = Check.of("LP00P90O019nO0190O0191O019n");
        due("11: what hangs goes too", x.form(0), 3);
        due("11: what does not stays", x.count(5), 8);
        due("11: it is free", x.form(1), STATE);
        due("11: one", x.form(3), 1);
        due("11: unknown", x.form(4), UNKNOWN);
        due("11: unknown", x.form(-1), UNKNOWN);
        due("11: acts", x.count(9), 2);
    }

    private static void move() {
        ClapOaths x = Check.of(FEN);
        due("12: where it was", x.move(2, 9), 6);
        due("12: where it was", x.move(2, 0), 9);
        due("12: it is there", x.move(2, 0), STATE);
        due("12: others stay", x.person(1, 0), 4);
        due("12: person", x.move(3, 0), UNKNOWN);
        due("12: person", x.move(-1, 0), UNKNOWN);
        due("12: place", x.move(0, 10), UNKNOWN);
        due("12: place", x.move(0, -1), UNKNOWN);
        due("12: acts", x.count(9), 2);
    }

    private static void wool() {
        ClapOaths x = Check.of(KINDS);
        due("13: in", x.wool(0), 1);
        due("13: who", x.count(7), 3);
        due("13: out", x.wool(0), 0);
        due("13: wool", x.wool(1), STATE);
        due("13: deaf", x.wool(2), STATE);
        due("13: monk", x.wool(3), 1);
        due("13: who", x.count(7), 10);
        due("13: unknown", x.wool(4), UNKNOWN);
        due("13: unknown", x.wool(-1), UNKNOWN);
        x.move(3, 9);
        due("13: a monk with wool in hears half", x.drum(7, 3), 0);
        due("13: and that much, as one of kind wool does", x.drum(7, 4), 2);
    }

    private static void undo() {
        ClapOaths x = Check.of(FEN);
        x.move(0, 9);
        x.wool(2);
        x.form(1);
        x.swear(1);
        x.drum(6, 2);
        x.day();
        due("14: day", x.undo(), 5);
        due("14: the day is back", x.count(4), 0);
        due("14: the worth is back", x.count(6), 0);
        due("14: drum", x.undo(), 4);
        due("14: sworn", x.count(5), 3);
        due("14: swear", x.undo(), 3);
        due("14: sworn", x.count(5), 1);
        due("14: form", x.undo(), 2);
        due("14: sworn", x.count(5), 3);
        due("14: wool", x.undo(), 1);
        due("14: wool", x.count(7), 0);
        due("14: move", x.undo(), 0);
        due("14: place", x.person(0, 0), 2);
        due("14: none", x.undo(), STATE);
        for (int i = 0; i < 16; i++) {
            x.day();
            due("14: acts", x.count(9), Math.min(14, i + 1));
        }
        for (int left = 13; left >= 0; left--) {
            due("14: left", x.undo(), left);
        }
        due("14: the first two are forgotten", x.count(4), 2);
        due("14: none", x.undo(), STATE);
    }

    private static void later() {
        ClapOaths x = Check.of("LP20P40QC33O015n");
        due("15: now", x.later(0, 0), 1);
        due("15: one quiet day", x.later(1, 0), 1);
        due("15: worth", x.later(1, 1), 5);
        due("15: free", x.later(2, 0), 0);
        due("15: worth stays", x.later(30, 1), 5);
        due("15: nothing is changed", x.count(4) + x.count(9), 0);
        due("15: outside", x.later(-1, 0), OUTSIDE);
        due("15: outside", x.later(31, 0), OUTSIDE);
        due("15: outside", x.later(1, 2), OUTSIDE);
        due("15: outside", x.later(1, -1), OUTSIDE);
    }

    private static void lasts() {
        ClapOaths x = Check.of("LP20P40P90QQC33O015nO029n");
        due("16: third day", x.lasts(0), 3);
        due("16: for good", x.lasts(1), NONE);
        x.day();
        due("16: from now on", x.lasts(0), 2);
        x.form(0);
        due("16: free", x.lasts(0), STATE);
        due("16: unknown", x.lasts(2), UNKNOWN);
        due("16: unknown", x.lasts(-1), UNKNOWN);
        due("16: first day", Check.of("LP20P40C33O015n").lasts(0), 1);
        // Skies come round in five days at most, so no oath is freed first by a later one.
        due("16: fifth day", Check.of("LP20P40QQQQC33O015n").lasts(0), 5);
    }

    private static void best() {
        ClapOaths x = Check.of("LP00P00C02O017n");
        due("17: out of hearing", x.best(0, 1, 0), 3);
        due("17: worth", x.best(0, 1, 1), 7);
        due("17: worth of nine days", x.best(1, 9, 1), 63);
        x.form(0);
        due("17: the least of like ones", x.best(0, 9, 0), 0);
        due("17: nothing", x.best(0, 9, 1), 0);
        due("17: unknown ahead of outside", x.best(2, 0, 0), UNKNOWN);
        due("17: outside", x.best(0, 0, 0), OUTSIDE);
        due("17: outside", x.best(0, 10, 0), OUTSIDE);
        due("17: outside", x.best(0, 1, 2), OUTSIDE);
        due("17: outside", x.best(0, 1, -1), OUTSIDE);
        ClapOaths y = Check.of("LP00P00O017n");
        y.day();
        due("17: with what is there already", y.best(0, 2, 1), 21);
        due("17: the last place", Check.of("LP00P00C08O017n").best(0, 1, 0), 9);
    }

    private static void frees() {
        ClapOaths x = Check.of(FEN);
        due("18: loud", x.frees(1, 0), 1);
        due("18: where", x.frees(1, 1), 3);
        due("18: the monk's", x.frees(2, 0), 0);
        due("18: where", x.frees(2, 1), 6);
        due("18: both, as one hangs", x.frees(3, 0), 1);
        due("18: where", x.frees(3, 1), 3);
        due("18: none asked", x.frees(0, 0), 0);
        due("18: none asked", x.frees(0, 1), 0);
        x.form(0);
        due("18: free already", x.frees(3, 0), 0);
        due("18: outside", x.frees(4, 0), OUTSIDE);
        due("18: outside", x.frees(-1, 0), OUTSIDE);
        due("18: outside", x.frees(1, 2), OUTSIDE);
        due("18: outside", x.frees(1, -1), OUTSIDE);
        ClapOaths y = Check.of("LP02P00O015n");
        due("18: none", y.frees(1, 0), NONE);
        due("18: none", y.frees(1, 1), NONE);
        due("18: wool at both ends", Check.of("LP01P91O015n").frees(1, 0), NONE);
        due("18: the last place", Check.of("LP90P90O015n").frees(1, 1), 9);
        due("18: between wool and none", Check.of("LP00P81O015n").frees(1, 0), 6);
        due("18: one of two", Check.of("LP01P91P40O015nO024n").frees(2, 0), 3);
    }

    private static void judge() {
        ClapOaths x = Check.of(FEN);
        due("19: it is sworn", x.judge(2, 600601L), NONE);
        due("19: leading noughts are a day, which frees it", x.judge(2, 600L), 1);
        due("19: and what hangs on it", x.judge(2, 601L), 1);
        due("19: in order", x.judge(3, 600000600L), 2);
        due("19: let off, sworn, sworn", x.judge(4, 300200201600L), NONE);
        due("19: what it hangs on is free", x.judge(2, 300201L), 1);
        due("19: sworn already", x.judge(1, 200L), 0);
        due("19: free already", x.judge(2, 301301L), 1);
        due("19: moved", x.judge(2, 409429L), NONE);
        due("19: it is there", x.judge(1, 402L), 0);
        due("19: moved twice", x.judge(2, 409409L), 1);
        due("19: no such person", x.judge(1, 430L), 0);
        due("19: wool", x.judge(2, 500500L), NONE);
        due("19: no such person", x.judge(1, 503L), 0);
        due("19: another kind", Check.of(KINDS).judge(1, 501L), 0);
        due("19: no such oath", x.judge(1, 602L), 0);
        due("19: any drum", x.judge(1, 199L), NONE);
        due("19: one day is one day", Check.of("LP20P40QC33O015n").judge(2, 600L), NONE);
        due("19: two are two", Check.of("LP20P40QC33O015n").judge(3, 600L), 2);
        due("19: wool in, and out", Check.of("LP20P40O015n").judge(4, 500500131600L), 3);
        due("19: wool in", Check.of("LP20P40O015n").judge(3, 500131600L), NONE);
        due("19: a drum frees", x.judge(2, 131600L), 1);
        for (long wrong : new long[] {1, 10, 210, 310, 510, 610, 700, 800, 900, 999}) {
            due("19: no such doing " + wrong, x.judge(1, wrong), 0);
        }
        due("19: nothing is changed", x.count(4) + x.count(9), 0);
        due("19: n", x.judge(0, 0L), OUTSIDE);
        due("19: n", x.judge(5, 0L), OUTSIDE);
        due("19: n", x.judge(Integer.MIN_VALUE, 0L), OUTSIDE);
        due("19: row", x.judge(1, -1L), OUTSIDE);
        due("19: row", x.judge(1, 1000L), OUTSIDE);
        due("19: row", x.judge(4, 1000000000000L), OUTSIDE);
        due("19: row", x.judge(4, Long.MAX_VALUE), OUTSIDE);
        due("19: row", x.judge(4, 999999999999L), 0);
    }

    private static void hear() {
        ClapOaths x = new ClapOaths();
        due("20: unknown", x.hear(10, 2, 2), UNKNOWN);
        due("20: unknown", x.hear(-1, 0, 0), UNKNOWN);
        due("20: wool", x.hear(0, 2, 0), OUTSIDE);
        due("20: wool", x.hear(0, -1, 0), OUTSIDE);
        due("20: heard", x.hear(0, 0, 2), OUTSIDE);
        due("20: heard", x.hear(0, 0, -1), OUTSIDE);
        for (int i = 1; i <= 6; i++) {
            due("20: " + i, x.hear(i, 0, 1), i);
        }
        due("20: full", x.hear(9, 1, 1), FULL);
        due("20: outside ahead of full", x.hear(9, 2, 1), OUTSIDE);
        due("20: six", x.count(10), 6);
    }

    private static void unhear() {
        ClapOaths x = new ClapOaths();
        due("21: none", x.unhear(), 0);
        x.hear(1, 1, 1);
        x.hear(2, 0, 0);
        due("21: two", x.unhear(), 2);
        due("21: none", x.unhear(), 0);
        due("21: all again", x.which(0), 100);
    }

    private static void which() {
        ClapOaths x = new ClapOaths();
        due("22: all", x.which(0), 100);
        due("22: the first", x.which(1), 0);
        x.hear(9, 1, 1);
        due("22: half as far", x.which(0), 30);
        due("22: the first", x.which(1), 58);
        x.hear(5, 0, 0);
        due("22: the first", x.which(1), 82);
        x.hear(9, 0, 0);
        due("22: none", x.which(0), 0);
        due("22: none", x.which(1), NONE);
        due("22: outside", x.which(2), OUTSIDE);
        due("22: outside", x.which(-1), OUTSIDE);
    }

    private static void share() {
        ClapOaths x = Check.of(FEN);
        due("23: above", x.share(0, true), 5);
        due("23: below", x.share(0, false), 2);
        due("23: least terms", x.share(1, true), 4);
        due("23: least terms", x.share(1, false), 1);
        x.form(0);
        due("23: nothing", x.share(0, true), 0);
        due("23: nothing", x.share(0, false), 1);
        due("23: unknown", x.share(3, true), UNKNOWN);
        due("23: unknown", x.share(-1, false), UNKNOWN);
    }

    private static void rests() {
        // Either one's wool keeps an oath of 5, at the price of 1: one of them wears it.
        ClapOaths x = Check.of("LP00P00C51O015nP02");
        due("24: a far clap", x.rests(0, 1, 0), 1);
        due("24: nobody", x.rests(0, 1, 1), 0);
        ClapOaths y = Check.of("LP00P00C11O015nP02");
        due("24: either", y.rests(0, 1, 0), 2);
        due("24: the other", y.rests(0, 1, 1), 1);
        y.wool(0);
        due("24: what is in now does not matter", y.rests(0, 1, 0), 2);
        due("24: worth 1 is no more", Check.of("LP00P00C11O011n").rests(0, 1, 0), 3);
        due("24: wool in any case", Check.of("LP01P00C11O015n").rests(0, 1, 1), 0);
        due("24: at no price", Check.of("LP01P00C11O015n").rests(0, 1, 0), 1);
        due("24: a monk", Check.of("LP03P00C11O015n").rests(0, 1, 1), 10);
        due("24: unknown", y.rests(3, 0, 0), UNKNOWN);
        due("24: unknown", y.rests(0, -1, 5), UNKNOWN);
        due("24: one", y.rests(0, 0, 0), OUTSIDE);
        due("24: what", y.rests(0, 1, 2), OUTSIDE);
        due("24: what ahead of deaf", y.rests(0, 2, -1), OUTSIDE);
        due("24: one ahead of deaf", y.rests(2, 2, 0), OUTSIDE);
        due("24: deaf", y.rests(0, 2, 0), STATE);
        due("24: deaf", y.rests(2, 0, 0), STATE);
        due("24: nothing is changed", y.count(4), 0);
    }

    private static void comes() {
        ClapOaths x = Check.of("LP20P40P90C33QO015nO029n");
        due("25: above", x.comes(0, 1, 4, true), 2);
        due("25: below", x.comes(0, 1, 4, false), 5);
        due("25: a quiet day", x.comes(0, 2, 4, true), 2);
        due("25: below", x.comes(0, 2, 4, false), 5);
        due("25: twice", x.comes(0, 3, 4, true), 4);
        due("25: below", x.comes(0, 3, 4, false), 25);
        due("25: thrice", x.comes(0, 6, 7, true), 343);
        due("25: below", x.comes(0, 6, 7, false), 1000);
        due("25: never", x.comes(0, 6, 10, true), 1);
        due("25: never", x.comes(0, 6, 10, false), 1);
        due("25: always", x.comes(0, 1, 0, true), 0);
        due("25: always", x.comes(0, 1, 0, false), 1);
        due("25: out of hearing", x.comes(1, 6, 3, true), 1);
        due("25: six claps", Check.of("LP20P40C33O015n").comes(0, 6, 9, true), 531441);
        due("25: six claps", Check.of("LP20P40C33O015n").comes(0, 6, 9, false), 1000000);
        due("25: unknown", x.comes(2, 0, 0, true), UNKNOWN);
        due("25: n", x.comes(0, 0, 0, true), OUTSIDE);
        due("25: n", x.comes(0, 7, 0, false), OUTSIDE);
        due("25: x", x.comes(0, 1, -1, true), OUTSIDE);
        due("25: x", x.comes(0, 1, 11, false), OUTSIDE);
        x.form(0);
        due("25: free", x.comes(0, 1, 10, true), 0);
    }

    private static void seed() {
        ClapOaths x = new ClapOaths();
        due("26: at first", x.seed(Long.MIN_VALUE), 0);
        due("26: then", x.seed(Long.MAX_VALUE), Long.MIN_VALUE);
        due("26: then", x.seed(0), Long.MAX_VALUE);
    }

    private static void years() {
        ClapOaths x = Check.of("LP02P02O019nO019n");
        x.seed(3);
        due("27: deaf ones keep theirs", x.years(30), 60);
        due("27: nothing is changed", x.count(4) + x.count(9) + x.count(6), 0);
        ClapOaths y = Check.of("LP00P00O019nC99");
        y.seed(3);
        y.years(1);
        long one = y.seed(3);
        due("27: the seed", one, 3 * 6364136223846793005L + 1442695040888963407L);
        due("27: outside", y.years(0), OUTSIDE);
        due("27: outside", y.years(31), OUTSIDE);
        due("27: refused changes nothing", y.seed(3), 3);
        y.years(30);
        long thirty = y.seed(3);
        for (int i = 0; i < 30; i++) {
            y.years(1);
        }
        due("27: thirty by one", y.seed(0), thirty);
        yearsOneByOne();
    }

    private static void yearsDue(ClapOaths x, int first, int second, int want) {
        x.seed(Seeds.whoseNextAre(first, second));
        due("27: " + first + ", then " + second, x.years(2), want);
    }

    private static void yearsOneByOne() {
        ClapOaths drums = Check.of("LP30P60O019n");
        for (int number = 0; number < 40; number++) {
            drums.seed(Seeds.whoseNextAre(number));
            due("27: number " + number, drums.years(1), number >= 3 && number <= 6 ? 0 : 1);
        }
        // Moved to 9 and to 0 a drum there is heard by both; elsewhere by one of them.
        ClapOaths low = Check.of("LP00P50P50P50P50O015nO025nO035nO045n");
        ClapOaths high = Check.of("LP90P50P50P50P50O015nO025nO035nO045n");
        for (int person = 1; person <= 4; person++) {
            yearsDue(low, 10 + 2 * person, 0, 7);
            yearsDue(low, 11 + 2 * person, 0, 8);
            yearsDue(high, 11 + 2 * person, 9, 7);
            yearsDue(high, 10 + 2 * person, 9, 8);
        }
        ClapOaths freed = Check.of("LP00P00O010nO010nO010nO010nO0103");
        for (int oath = 0; oath < 5; oath++) {
            freed.form(oath);
        }
        for (int oath = 0; oath < 5; oath++) {
            freed.seed(Seeds.whoseNextAre(20 + oath));
            due("27: oath " + oath + " is sworn", freed.years(1), oath < 4 ? 1 : 0);
        }
        yearsDue(freed, 23, 24, 3);
        ClapOaths woolly = Check.of("LP00P20P20P20P20O015nO025nO035nO045n");
        for (int person = 1; person <= 4; person++) {
            yearsDue(woolly, 25 + person, 0, 5);
            yearsDue(woolly, 25 + person, 25 + person, 8);
        }
        ClapOaths claps = Check.of("LP00P90C99O019n");
        for (int number = 30; number < 40; number++) {
            claps.seed(Seeds.whoseNextAre(number));
            due("27: a day by " + number, claps.years(1), 0);
        }
        claps.seed(Seeds.whoseNextAre(29));
        due("27: no day by 29", claps.years(1), 1);
    }

    private static void keep() {
        ClapOaths x = Check.of(FEN);
        due("28: the day", x.keep(0), 0);
        x.day();
        due("28: the day", x.keep(1), 1);
        due("28: unknown", x.keep(2), UNKNOWN);
        due("28: unknown", x.keep(-1), UNKNOWN);
        due("28: the row stays", x.count(9), 1);
        due("28: no act", x.undo(), 0);
    }

    private static void again() {
        ClapOaths x = Check.of(FEN);
        x.move(0, 8);
        x.wool(2);
        x.form(1);
        x.day();
        x.keep(1);
        due("29: none kept", x.again(0), STATE);
        due("29: unknown", x.again(2), UNKNOWN);
        due("29: unknown", x.again(-1), UNKNOWN);
        due("29: the row stays", x.count(9), 4);
        x.move(0, 1);
        x.wool(2);
        x.swear(1);
        x.day();
        due("29: the day", x.again(1), 1);
        due("29: place", x.person(0, 0), 8);
        due("29: wool", x.count(7), 4);
        due("29: sworn", x.count(5), 1);
        due("29: worth", x.count(6), 5);
        due("29: the row is empty", x.undo(), STATE);
        x.day();
        due("29: as often as one likes", x.again(1), 1);
        x.day();
        x.keep(0);
        due("29: the other slot stays", x.again(1), 1);
        due("29: and the new one is", x.again(0), 2);
    }

    private static void count() {
        ClapOaths x = Check.of(FEN);
        x.wool(0);
        x.move(1, 7);
        x.hear(0, 0, 0);
        x.day();
        x.day();
        int[] all = {FEN.length(), 3, 2, 2, 2, 1, 10, 1, 5, 4, 1};
        for (int what = 0; what < all.length; what++) {
            due("30: count(" + what + ")", x.count(what), all[what]);
        }
        due("30: outside", x.count(11), OUTSIDE);
        due("30: outside", x.count(-1), OUTSIDE);
    }
}
