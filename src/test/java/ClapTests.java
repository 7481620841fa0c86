/** The edges of promises 6 to 13: who hears a clap, which oaths are free by it, skies that come round, the worth, acts of persons. */
public final class ClapTests {
    private static final int UNKNOWN = -1, OUTSIDE = -2, STATE = -3, NONE = -9;
    private static final int PLAIN = 0, WOOL = 1, DEAF = 2, MONK = 3;

    /** How far somebody with wool in hears a clap, by how loud it is. */
    private static final int[] HALF = {0, 0, 1, 1, 2, 2, 3, 3, 4, 4};

    private static final Check CHECK = new Check();

    public static void main(String[] args) {
        heardAtEveryDistance();
        heardWithWoolPutIn();
        freeByKindsAndHearing();
        freeIsCountedOnce();
        whatHangsIsFree();
        whatHangsStays();
        skiesComeRound();
        noSkyIsQuiet();
        worthBehindTheClap();
        worthAtMost();
        drumIsNoDay();
        drumBounds();
        sworn();
        letOff();
        moved();
        wool();
        lastOfEach();
        CHECK.end("ClapTests");
    }

    private static void due(String what, long got, long want) {
        CHECK.due(what, got, want);
    }

    private static boolean reached(int place, int kind, int clap, int loud) {
        int far = Math.max(place, clap) - Math.min(place, clap);
        return kind != DEAF && far <= (kind == WOOL ? HALF[loud] : loud);
    }

    private static void heardAtEveryDistance() {
        for (int kind = PLAIN; kind <= MONK; kind++) {
            for (int place = 0; place <= 9; place++) {
                for (int clap = 0; clap <= 9; clap++) {
                    for (int loud = 0; loud <= 9; loud++) {
                        ClapOaths x = Check.of("LP" + place + kind + "C" + clap + loud);
                        int want = reached(place, kind, clap, loud) ? 1 : 0;
                        String what = "of kind " + kind + " at " + place + " by a clap at " + clap + ", loud by " + loud;
                        due("6: heard " + what, x.person(0, 5), want);
                        due("30: heard " + what, x.count(8), want);
                    }
                }
            }
        }
    }

    /** A plain one and a monk, with wool in and out again, by drums: a monk's oath with a deaf one tells what it heard. */
    private static void heardWithWoolPutIn() {
        for (int loud = 0; loud <= 9; loud++) {
            for (int clap = 0; clap <= 9; clap++) {
                ClapOaths x = Check.of("LP53P92P50O019nC" + clap + loud);
                int far = Math.abs(clap - 5);
                x.wool(0);
                x.wool(2);
                due("13: both with wool in", x.count(8), far <= HALF[loud] ? 5 : 0);
                due("9: the monk's, wool in", x.drum(clap, loud), far <= HALF[loud] ? 1 : 0);
                x.undo();
                x.wool(0);
                x.wool(2);
                due("13: both without", x.count(8), far <= loud ? 5 : 0);
                due("9: the monk's, wool out", x.drum(clap, loud), far <= loud ? 1 : 0);
            }
        }
    }

    /** Every two kinds; each of the two within hearing of a clap at 0, or not. */
    private static void freeByKindsAndHearing() {
        for (int one = PLAIN; one <= MONK; one++) {
            for (int other = PLAIN; other <= MONK; other++) {
                for (int within = 0; within < 4; within++) {
                    boolean oneHeard = within % 2 == 1 && one != DEAF;
                    boolean otherHeard = within / 2 == 1 && other != DEAF;
                    boolean free = oneHeard && otherHeard || oneHeard && one == MONK || otherHeard && other == MONK;
                    String text = "LP" + (within % 2 == 1 ? 0 : 9) + one + "P" + (within / 2 == 1 ? 0 : 9) + other + "O015nC00";
                    due("9: a drum on " + text, Check.of(text).drum(0, 0), free ? 1 : 0);
                    ClapOaths x = Check.of(text);
                    due("8: a day on " + text, x.day(), free ? 1 : 0);
                    due("8: the worth of " + text, x.count(6), free ? 0 : 5);
                    due("7: sworn, of " + text, x.oath(0, 4), free ? 0 : 1);
                }
            }
        }
    }

    private static void freeIsCountedOnce() {
        ClapOaths x = Check.of("LP00P00P90O011nO022nO123n");
        due("9: one", x.drum(0, 0), 1);
        due("9: it is free already", x.drum(0, 0), 0);
        due("9: the others", x.drum(0, 9), 2);
        due("9: all are free", x.drum(5, 9), 0);
        due("8: all are free", x.day(), 0);
        due("30: none is sworn", x.count(5), 0);
    }

    private static void whatHangsIsFree() {
        // A row of five; only the two of the first one hear.
        String row = "LP00P00P92O011nO0210O0221O1212O1233";
        due("9: again and again", Check.of(row).drum(0, 0), 5);
        due("11: again and again", Check.of(row).form(0), 5);
        for (int oath = 0; oath < 5; oath++) {
            ClapOaths x = Check.of(row);
            due("11: from " + oath + " on", x.form(oath), 5 - oath);
            due("11: those ahead of it stay", x.count(5), (1 << oath) - 1);
        }
        ClapOaths day = Check.of(row + "C00");
        due("8: by a day", day.day(), 5);
        due("8: no worth is left", day.count(6), 0);
        // Two rows on one oath.
        ClapOaths two = Check.of("LP00P92P92O011nO0220O1230O0231O1242");
        due("11: both rows", two.form(0), 5);
        ClapOaths one = Check.of("LP00P92P92O011nO0220O1230O0231O1242");
        due("11: one row", one.form(1), 2);
        due("11: the other stays", one.count(5), 21);
    }

    private static void whatHangsStays() {
        // That which hangs is free, that on which it hangs is not.
        ClapOaths x = Check.of("LP00P00P92O029nO0180");
        due("9: the second alone", x.drum(0, 0), 1);
        due("9: the first stays", x.count(5), 1);
        due("10: and bears the second again", x.swear(1), 2);
        due("11: form of the second", x.form(1), 1);
        due("11: the first stays", x.count(5), 1);
    }

    private static void skiesComeRound() {
        for (int skies = 1; skies <= 5; skies++) {
            for (int clap = 0; clap < skies; clap++) {
                ClapOaths x = Check.of("LP00" + "Q".repeat(clap) + "C00" + "Q".repeat(skies - 1 - clap));
                for (int day = 0; day < 3 * skies + 1; day++) {
                    String what = "day " + day + " of " + skies + " skies, a clap at " + clap;
                    due("6: " + what, x.person(0, 5), day % skies == clap ? 1 : 0);
                    due("30: " + what, x.count(8), day % skies == clap ? 1 : 0);
                    due("30: the day", x.count(4), day);
                    x.day();
                }
            }
        }
        ClapOaths x = Check.of("LP00P00O011nQQC00");
        int[] freed = {0, 0, 1, 0, 0, 1, 0, 0, 1};
        for (int day = 0; day < freed.length; day++) {
            due("8: freed on day " + day, x.day(), freed[day]);
            if (freed[day] == 1) {
                due("10: sworn again", x.swear(0), 1);
            }
        }
    }

    private static void noSkyIsQuiet() {
        ClapOaths x = Check.of("LP00P03O019n");
        for (int day = 0; day < 7; day++) {
            due("30: nobody hears no sky", x.count(8), 0);
            due("6: nobody hears no sky", x.person(1, 5), 0);
            due("8: quiet", x.day(), 0);
            due("8: the worth", x.count(6), 9 * (day + 1));
            due("8: the day", x.count(4), day + 1);
        }
        ClapOaths quiet = Check.of("LP00P03O019nQQQQQ");
        due("30: nobody hears a quiet one", quiet.count(8), 0);
        due("8: a quiet one", quiet.day(), 0);
    }

    private static void worthBehindTheClap() {
        // The first oath is free by the clap of the day, the second stays, the third hangs on the first.
        ClapOaths x = Check.of("LP00P00P92O017nO025nO0230C00");
        due("8: two are free", x.day(), 2);
        due("8: the one that is left", x.count(6), 5);
        x.swear(0);
        x.day();
        due("8: that which was sworn in between is free again", x.count(6), 10);
        x.form(1);
        x.day();
        due("8: none is left", x.count(6), 10);
        due("8: the day goes by", x.count(4), 3);
        due("8: an oath of worth 0", dayOf("LP00P00O010n"), 0);
        due("8: five of worth 9", dayOf("LP00P00O019nO019nO019nO019nO019n"), 45);
    }

    private static int dayOf(String text) {
        ClapOaths x = Check.of(text);
        x.day();
        return x.count(6);
    }

    private static ClapOaths behind(int days, String text) {
        ClapOaths x = Check.of(text);
        for (int i = 0; i < days; i++) {
            x.day();
        }
        return x;
    }

    private static void worthAtMost() {
        ClapOaths x = behind(222, "LP00P00O019nO019nO019nO019nO019n");
        due("8: 222 days", x.count(6), 9990);
        due("15: a day more", x.later(1, 1), 9999);
        due("15: thirty more", x.later(30, 1), 9999);
        due("17: nine more", x.best(0, 9, 1), 9999);
        due("17: like ones, all of them", x.best(0, 9, 0), 0);
        x.day();
        due("8: no more than 9999", x.count(6), 9999);
        x.day();
        due("8: nor later on", x.count(6), 9999);
        x.undo();
        x.undo();
        due("14: what it was", x.count(6), 9990);
        for (int oath = 1; oath < 5; oath++) {
            x.form(oath);
        }
        due("15: just 9999", x.later(1, 1), 9999);
        x.day();
        due("8: just 9999", x.count(6), 9999);
        x.day();
        due("8: and no more", x.count(6), 9999);
        due("28: kept", x.keep(0), 224);
        due("29: so", x.again(0), 224);
        due("29: as it was", x.count(6), 9999);
        justBelow();
    }

    private static void justBelow() {
        // 226 days of 44, one of 36, one of 18.
        ClapOaths x = behind(226, "LP00P00O019nO019nO019nO019nO018n");
        x.form(4);
        x.day();
        due("8: 9980", x.count(6), 9980);
        x.form(3);
        x.form(2);
        due("15: 9998 is not cut", x.later(1, 1), 9998);
        x.day();
        due("8: 9998 is not cut", x.count(6), 9998);
        x.day();
        due("8: more is", x.count(6), 9999);
    }

    private static void drumIsNoDay() {
        ClapOaths x = Check.of("LP00P90O019nC00Q");
        x.drum(0, 3);
        x.drum(9, 0);
        due("9: no day goes by", x.count(4), 0);
        due("9: no worth", x.count(6), 0);
        due("9: an act each", x.count(9), 2);
        due("9: the sky is the same", x.count(8), 1);
    }

    private static void drumBounds() {
        ClapOaths x = Check.of("LP00P90O019n");
        due("9: the least place, the least loud", x.drum(0, 0), 0);
        due("9: the last place, the least loud", x.drum(9, 0), 0);
        due("9: too far by one", x.drum(0, 8), 0);
        due("9: the least place, the loudest", x.drum(0, 9), 1);
        x.undo();
        due("9: the last place, the loudest", x.drum(9, 9), 1);
        x.undo();
        due("9: in the middle, too far by one", x.drum(4, 4), 0);
        due("9: in the middle", x.drum(4, 5), 1);
        for (int place : new int[] {-1, 10, Integer.MIN_VALUE, Integer.MAX_VALUE}) {
            due("9: place " + place, x.drum(place, 0), UNKNOWN);
            due("9: place " + place + " ahead of loud", x.drum(place, 10), UNKNOWN);
            due("9: loud " + place, x.drum(0, place), OUTSIDE);
            due("9: loud " + place, x.drum(9, place), OUTSIDE);
        }
        ClapOaths y = new ClapOaths();
        due("9: where there is nobody", y.drum(9, 9), 0);
        due("9: it is an act", y.count(9), 1);
    }

    private static void sworn() {
        ClapOaths x = Check.of("LP00P90O019nO0180O0171O016n");
        due("10: it is sworn", x.swear(3), STATE);
        due("11: all that hang on the first", x.form(0), 3);
        due("10: what it hangs on is free", x.swear(2), STATE);
        due("10: what it hangs on is free", x.swear(1), STATE);
        due("10: it hangs on none", x.swear(0), 2);
        due("10: what hangs is not sworn with it", x.count(5), 9);
        due("10: still not", x.swear(2), STATE);
        due("10: the next", x.swear(1), 3);
        due("10: the last", x.swear(2), 4);
        due("10: again", x.swear(2), STATE);
        due("10: the refused are no acts", x.count(9), 4);
        due("10: beyond the last", x.swear(4), UNKNOWN);
        due("10: ahead of the first", x.swear(-1), UNKNOWN);
        due("10: 32 is not 0", x.swear(32), UNKNOWN);
    }

    private static void letOff() {
        ClapOaths x = Check.of("LP00P90O019nO0180");
        due("11: the last", x.form(1), 1);
        due("11: it is free", x.form(1), STATE);
        due("11: what hangs on it is free already", x.form(0), 1);
        due("11: it is free", x.form(0), STATE);
        due("11: beyond the last", x.form(2), UNKNOWN);
        due("11: ahead of the first", x.form(-1), UNKNOWN);
        due("11: 32 is not 0", x.form(32), UNKNOWN);
        due("11: two acts", x.count(9), 2);
        due("11: no day goes by", x.count(4), 0);
    }

    private static void moved() {
        ClapOaths x = Check.of("LP00P10P20P30P90");
        for (int person = 0; person < 5; person++) {
            int at = person == 4 ? 9 : person;
            due("12: it is there", x.move(person, at), STATE);
            due("12: to the other end", x.move(person, 9 - at), at);
            due("6: it is there then", x.person(person, 0), 9 - at);
            due("12: it is there", x.move(person, 9 - at), STATE);
            due("12: below the first place", x.move(person, -1), UNKNOWN);
            due("12: beyond the last place", x.move(person, 10), UNKNOWN);
        }
        int[] places = {9, 8, 7, 6, 0};
        for (int person = 0; person < 5; person++) {
            due("12: each for itself", x.person(person, 0), places[person]);
        }
        due("12: nobody", x.move(5, 0), UNKNOWN);
        due("12: nobody", x.move(-1, 0), UNKNOWN);
        due("12: nobody, nowhere", x.move(5, 10), UNKNOWN);
        due("12: five acts", x.count(9), 5);
    }

    private static void wool() {
        int[] want = {1, STATE, STATE, 1};
        for (int kind = PLAIN; kind <= MONK; kind++) {
            ClapOaths x = Check.of("LP5" + kind + "P5" + kind);
            int before = x.count(7);
            due("13: of kind " + kind, x.wool(1), want[kind]);
            due("13: who has it in", x.count(7), want[kind] == 1 ? 2 : before);
            due("6: it has it in", x.person(1, 2), kind == DEAF ? 0 : 1);
            due("13: of kind " + kind + " again", x.wool(1), want[kind] == 1 ? 0 : STATE);
            due("13: who has it in", x.count(7), before);
            due("13: acts", x.count(9), want[kind] == 1 ? 2 : 0);
            due("13: beyond the last", x.wool(2), UNKNOWN);
            due("13: ahead of the first", x.wool(-1), UNKNOWN);
            due("13: 32 is not 0", x.wool(32), UNKNOWN);
        }
    }

    /** Five of each: the fifth one is there, and there is no sixth. */
    private static void lastOfEach() {
        ClapOaths x = Check.of("LP00P00P00P00P90QQQQC99O011nO121nO231nO341nO409n");
        due("6: the fifth", x.person(4, 0), 9);
        due("6: its oaths", x.person(4, 3), 24);
        due("7: the fifth", x.oath(4, 2), 9);
        due("7: the fifth hangs on none", x.oath(4, 3), NONE);
        due("11: the fifth", x.form(4), 1);
        due("7: is free", x.oath(4, 4), 0);
        due("6: it has one left", x.person(4, 4), 8);
        due("10: the fifth", x.swear(4), 5);
        due("13: the fifth", x.wool(4), 1);
        due("30: who has wool in", x.count(7), 16);
        due("12: the fifth", x.move(4, 8), 9);
        for (int wrong : new int[] {-1, 5, Integer.MIN_VALUE, Integer.MAX_VALUE}) {
            due("6: no person " + wrong, x.person(wrong, 0), UNKNOWN);
            due("7: no oath " + wrong, x.oath(wrong, 0), UNKNOWN);
            due("10: no oath " + wrong, x.swear(wrong), UNKNOWN);
            due("11: no oath " + wrong, x.form(wrong), UNKNOWN);
            due("12: no person " + wrong, x.move(wrong, 3), UNKNOWN);
            due("13: no person " + wrong, x.wool(wrong), UNKNOWN);
        }
        for (int day = 0; day < 4; day++) {
            due("8: quiet", x.day(), 0);
        }
        due("8: the fifth sky", x.count(8), 31);
        due("8: frees all", x.day(), 5);
    }
}
