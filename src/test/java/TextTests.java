/** The edges of promises 1 to 5: the letters of the text, the first fault at each of them, the county that is made of it. */
public final class TextTests {
    private static final int UNKNOWN = -1, OUTSIDE = -2, STATE = -3, FULL = -4, NONE = -9;

    private static final String FIGURES = "0123456789";
    /** Five of each, 56 letters: no county is longer. */
    private static final String WHOLE = "LP00P41P52P63P90C33C12C99C00C55O015nO1230O239nO3410O4073";
    /** Five of each, as mixed as they can be told. */
    private static final String MIXED = "LQP31P62O107nC45QP90O2180C09O0271P13O3262QP22O4393";

    private static final Check CHECK = new Check();

    public static void main(String[] args) {
        nobodyAtFirst();
        lettersOutside();
        sixtyLetters();
        wiped();
        emptyText();
        everyLetterAtEveryPlace(WHOLE);
        everyLetterAtEveryPlace(MIXED);
        everyLetterAtEveryPlace("LP00P00O010nO0190O0181O0172O0163QQQQQP93P82P71");
        everyLength(WHOLE);
        everyLength(MIXED);
        lengthSetAside();
        toldAhead();
        fiveAtMost();
        theFirstOfSeveralFaults();
        numberedEachForItself();
        emptyCounty();
        asTold();
        anew();
        smallerAnew();
        CHECK.end("TextTests");
    }

    private static void due(String what, long got, long want) {
        CHECK.due(what, got, want);
    }

    private static void faultOf(String text, int want) {
        ClapOaths x = new ClapOaths();
        Check.tell(x, text);
        due("4: fault of " + text, x.fault(), want);
    }

    private static void nobodyAtFirst() {
        ClapOaths x = new ClapOaths();
        CHECK.same("1: a new object is as the county L is", Look.standing(x), Look.standing(Check.of("L")));
        due("1: nobody", x.count(1), 0);
        due("1: no sky", x.count(2), 0);
        due("1: no oath", x.count(3), 0);
        due("1: a day is quiet", x.day(), 0);
        due("1: and goes by", x.count(4), 1);
        due("1: it is an act", x.count(9), 1);
    }

    private static void lettersOutside() {
        int[] wrong = {-1, 256, 'L' + 256, 'L' - 256, 65536 + 'L', Integer.MIN_VALUE, Integer.MAX_VALUE};
        for (int letter : wrong) {
            ClapOaths x = new ClapOaths();
            due("2: " + letter + " ahead of all", x.write(letter), OUTSIDE);
            due("2: L", x.write('L'), 1);
            due("2: " + letter + " behind L", x.write(letter), OUTSIDE);
            due("2: Q", x.write('Q'), 2);
            due("2: the refused are no letters", x.fault(), NONE);
            due("2: nor are they counted", x.count(0), 2);
            due("2: the county", x.county(), 10);
        }
        ClapOaths y = new ClapOaths();
        for (int letter = 0; letter <= 255; letter++) {
            y.wipe();
            due("2: the letter " + letter, y.write(letter), 1);
        }
    }

    private static void sixtyLetters() {
        ClapOaths x = new ClapOaths();
        for (int round = 0; round < 2; round++) {
            for (int i = 0; i < 60; i++) {
                due("2: letter " + (i + 1), x.write(i < 56 ? WHOLE.charAt(i) : 'Z'), i + 1);
            }
            due("2: one more", x.write('L'), FULL);
            due("2: the least one more", x.write(0), FULL);
            due("2: the greatest one more", x.write(255), FULL);
            due("2: OUTSIDE is named first", x.write(256), OUTSIDE);
            due("2: OUTSIDE is named first", x.write(-1), OUTSIDE);
            due("2: sixty", x.count(0), 60);
            due("2: the refused are not there", x.fault(), 56);
            due("2: all sixty are wiped", x.wipe(), 60);
        }
        for (int i = 0; i < 56; i++) {
            x.write(WHOLE.charAt(i));
        }
        due("2: nothing of the sixty is left", x.county(), 555);
    }

    private static void wiped() {
        ClapOaths x = new ClapOaths();
        due("3: an empty one", x.wipe(), 0);
        x.write(0);
        due("3: one letter", x.wipe(), 1);
        due("3: it is empty", x.count(0), 0);
        due("3: its fault", x.fault(), 0);
        ClapOaths y = Check.of(WHOLE);
        y.day();
        String before = Look.standing(y);
        due("3: a county's", y.wipe(), 56);
        CHECK.same("3: the county stays", Look.standing(y), before);
        due("3: the row stays", y.count(9), 1);
        due("3: no act", y.undo(), 0);
    }

    private static void emptyText() {
        ClapOaths x = new ClapOaths();
        due("4: of an empty text its length", x.fault(), 0);
        due("5: of an empty text", x.county(), STATE);
        x.write('L');
        due("4: L is a county", x.fault(), NONE);
        due("5: of nobody", x.county(), 0);
    }

    /** The letters that a part may begin with, behind so many persons, skies, oaths. */
    private static String beginnings(int persons, int skies, int oaths) {
        return (persons < 5 ? "P" : "") + (skies < 5 ? "QC" : "") + (persons > 1 && oaths < 5 ? "O" : "");
    }

    /** For each place of a county which letters may stand there, by the forms of its parts. */
    private static String[] allowed(String county) {
        String[] rows = new String[county.length() + 1];
        rows[0] = "L";
        int persons = 0, skies = 0, oaths = 0, at = 1;
        while (at < county.length()) {
            rows[at] = beginnings(persons, skies, oaths);
            switch (county.charAt(at)) {
                case 'P' -> {
                    rows[at + 1] = FIGURES;
                    rows[at + 2] = "0123";
                    persons++;
                    at += 3;
                }
                case 'C' -> {
                    rows[at + 1] = FIGURES;
                    rows[at + 2] = FIGURES;
                    skies++;
                    at += 3;
                }
                case 'Q' -> {
                    skies++;
                    at += 1;
                }
                default -> {
                    rows[at + 1] = FIGURES.substring(0, persons);
                    rows[at + 2] = rows[at + 1].replace(county.substring(at + 1, at + 2), "");
                    rows[at + 3] = FIGURES;
                    rows[at + 4] = FIGURES.substring(0, oaths) + "n";
                    oaths++;
                    at += 5;
                }
            }
        }
        rows[at] = beginnings(persons, skies, oaths);
        return rows;
    }

    private static void everyLetterAtEveryPlace(String county) {
        String[] rows = allowed(county);
        for (int place = 0; place <= county.length(); place++) {
            for (int letter = 0; letter <= 255; letter++) {
                if (rows[place].indexOf(letter) < 0) {
                    String text = county.substring(0, place) + (char) letter;
                    faultOf(text, place);
                    faultOf(text + "01n", place);
                } else {
                    boolean ends = "PCO".indexOf(letter) < 0 && (letter == 'Q' || isPartEnd(county, place + 1));
                    faultOf(county.substring(0, place) + (char) letter, ends ? NONE : place + 1);
                }
            }
        }
    }

    /** Whether so many letters of a county are its L with whole parts. */
    private static boolean isPartEnd(String county, int length) {
        return length > 0 && (length == county.length() || "PQCO".indexOf(county.charAt(length)) >= 0);
    }

    /** Cut off anywhere, a county's text is only not at its end, or is one. */
    private static void everyLength(String county) {
        for (int length = 0; length <= county.length(); length++) {
            ClapOaths x = new ClapOaths();
            Check.tell(x, county.substring(0, length));
            boolean ends = isPartEnd(county, length);
            due("4: the first " + length + " of " + county, x.fault(), ends ? NONE : length);
            due("5: the first " + length + " of " + county, x.county() >= 0 ? 1 : 0, ends ? 1 : 0);
        }
    }

    private static void lengthSetAside() {
        faultOf(WHOLE, NONE);
        faultOf(WHOLE + "Q", 56);
        faultOf(WHOLE + "PQCO", 56);
        // No letters are left for the rest of a part, and still it is only not at its end.
        faultOf("L" + "P00".repeat(5) + "C00".repeat(5) + "O010n".repeat(4) + "O01", 54);
        faultOf("L".repeat(60), 1);
        faultOf("X".repeat(60), 0);
    }

    private static void toldAhead() {
        faultOf("LO010nP00P00", 1);
        faultOf("LP00O010nP00", 4);
        faultOf("LP00P00O020nP00", 9);
        faultOf("LP00P00O200nP00", 8);
        faultOf("LP00P00P00O020n", NONE);
        faultOf("LP00P00O0100", 11);
        faultOf("LP00P00O0101O010n", 11);
        faultOf("LP00P00O010nO0101", 16);
        faultOf("LP00P00O010nO0100", NONE);
        faultOf("LP00P00O110n", 9);
        faultOf("LP00P00O000n", 9);
    }

    private static void fiveAtMost() {
        String persons = "L" + "P93".repeat(5);
        faultOf(persons, NONE);
        faultOf(persons + "P", 16);
        faultOf(persons + "Q", NONE);
        String oaths = "LP00P00" + "O019n".repeat(5);
        faultOf(oaths, NONE);
        faultOf(oaths + "O", 32);
        faultOf(oaths + "P00", NONE);
        for (int claps = 0; claps <= 5; claps++) {
            String skies = "L" + "C99".repeat(claps) + "Q".repeat(5 - claps);
            faultOf(skies, NONE);
            faultOf(skies + "Q", skies.length());
            faultOf(skies + "C", skies.length());
            due("5: five skies", Check.of(skies).count(2), 5);
        }
    }

    private static void theFirstOfSeveralFaults() {
        faultOf("LPP0", 2);
        faultOf("LP0PP", 3);
        faultOf("Lp00", 1);
        faultOf("LQ LQ ", 2);
        faultOf("LP05XX", 3);
        faultOf("LP00P00O000N", 9);
        faultOf(" L", 0);
    }

    private static void numberedEachForItself() {
        ClapOaths x = Check.of(MIXED);
        due("5: five of each", x.county(), 555);
        int[] places = {3, 6, 9, 1, 2};
        int[] kinds = {1, 2, 0, 3, 2};
        for (int person = 0; person < 5; person++) {
            due("6: place of " + person, x.person(person, 0), places[person]);
            due("6: kind of " + person, x.person(person, 1), kinds[person]);
        }
        int[][] oaths = {{1, 0, 7, NONE}, {2, 1, 8, 0}, {0, 2, 7, 1}, {3, 2, 6, 2}, {4, 3, 9, 3}};
        for (int oath = 0; oath < 5; oath++) {
            for (int what = 0; what < 4; what++) {
                due("7: oath " + oath + ", " + what, x.oath(oath, what), oaths[oath][what]);
            }
        }
        // C45 and C09 are both heard by the wool at 3, the plain one at 9 and the monk at 1.
        int[] hearers = {0, 13, 0, 13, 0};
        for (int day = 0; day < 10; day++) {
            due("8: the sky of day " + day, x.count(8), hearers[day % 5]);
            x.day();
        }
    }

    private static void emptyCounty() {
        ClapOaths x = Check.of("L");
        int[] counts = {1, 0, 0, 0, 0, 0, 0, 0, 0, 0, 0};
        for (int what = 0; what < counts.length; what++) {
            due("5: count(" + what + ") of L", x.count(what), counts[what]);
        }
        due("5: nobody", x.person(0, 0), UNKNOWN);
        due("5: no oath", x.oath(0, 0), UNKNOWN);
        due("5: persons alone", Check.of("LP00").count(1), 1);
        due("5: skies alone", Check.of("LQ").county(), 10);
        due("5: oaths are not without persons", Check.of("LP00P00O010n").county(), 201);
    }

    private static void asTold() {
        ClapOaths x = Check.of(WHOLE);
        due("5: five of each", x.county(), 555);
        due("5: all are sworn", x.count(5), 31);
        due("5: wool by kind", x.count(7), 2);
        due("5: the worth", x.count(6), 0);
        due("5: the day", x.count(4), 0);
        int[] places = {0, 4, 5, 6, 9};
        int[] oaths = {17, 3, 6, 12, 24};
        for (int person = 0; person < 5; person++) {
            due("6: place of " + person, x.person(person, 0), places[person]);
            due("6: oaths of " + person, x.person(person, 3), oaths[person]);
            due("6: sworn ones of " + person, x.person(person, 4), oaths[person]);
        }
        for (int kind = 0; kind <= 3; kind++) {
            ClapOaths y = Check.of("LP9" + kind + "P0" + kind);
            due("6: kind " + kind, y.person(0, 1), kind);
            due("6: wool of kind " + kind, y.count(7), kind == 1 ? 3 : 0);
        }
        for (int figure = 0; figure <= 9; figure++) {
            ClapOaths y = Check.of("LP" + figure + "0P00O01" + figure + "n");
            due("6: place " + figure, y.person(0, 0), figure);
            due("7: worth " + figure, y.oath(0, 2), figure);
        }
    }

    private static void anew() {
        ClapOaths x = Check.of(WHOLE);
        String first = Look.standing(x);
        x.hear(9, 1, 1);
        x.hear(0, 0, 0);
        x.seed(-5);
        x.keep(0);
        x.move(0, 9);
        x.wool(3);
        x.form(0);
        x.day();
        x.keep(1);
        int which = x.which(1);
        due("5: there is some worth", x.count(6), 9);
        due("5: some are free", x.count(5), 4);
        due("5: made anew", x.county(), 555);
        CHECK.same("5: all is as told", Look.standing(x), first);
        due("5: the row is empty", x.count(9), 0);
        due("5: nothing to undo", x.undo(), STATE);
        due("5: what was kept is gone", x.again(0), STATE);
        due("5: what was kept is gone", x.again(1), STATE);
        due("5: heard stays", x.count(10), 2);
        due("5: and is as it was", x.which(1), which);
        due("5: the seed stays", x.seed(0), -5);
        due("5: the text stays", x.wipe(), 56);
    }

    private static void smallerAnew() {
        ClapOaths x = Check.of(WHOLE);
        x.wool(4);
        Check.tell(x, "LP70C79");
        due("5: a smaller one", x.county(), 110);
        due("5: no oath is left", x.count(5), 0);
        due("5: no wool is left", x.count(7), 0);
        due("5: one hears", x.count(8), 1);
        due("5: one is there", x.person(0, 0), 7);
        due("5: the second is not", x.person(1, 0), UNKNOWN);
        due("5: no oath", x.oath(0, 0), UNKNOWN);
        due("5: it has none", x.person(0, 3), 0);
        Check.tell(x, "L");
        due("5: none at all", x.county(), 0);
        due("5: and no sky", x.count(8), 0);
        due("5: quiet", x.day(), 0);
        Check.tell(x, WHOLE);
        due("5: and all five again", x.county(), 555);
        due("5: all sworn", x.count(5), 31);
    }
}
