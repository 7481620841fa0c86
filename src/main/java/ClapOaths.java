/**
 * A county in which an oath is good till it next thunders.
 * The words in capitals in ../shared/DOC.md are the names used here.
 */
public final class ClapOaths {
    public static final int UNKNOWN = -1, OUTSIDE = -2, STATE = -3, FULL = -4, NONE = -9;

    private static final int MOST_LETTERS = 60;
    private static final int MOST_TOLD = 5;
    private static final int MOST_ACTS = 14;
    private static final int MOST_HEARD = 6;
    private static final int MOST_WORTH = 9999;
    private static final int MOST_DAYS = 30;
    private static final int SLOTS = 2;
    private static final int LAST_PLACE = 9;
    private static final int LOUDEST = 9;
    private static final int QUIET = -1;
    private static final int PLAIN = 0, WOOL = 1, DEAF = 2, MONK = 3;
    private static final long SEED_TIMES = 6364136223846793005L;
    private static final long SEED_MORE = 1442695040888963407L;

    private final Text text;
    private final Reader reader;
    private final County draft;
    private final County land;
    private final Standing now;
    private final Standing trial;
    private final Acts acts;
    private final Heard hearings;
    private final int[] kept;
    private int keptSlots;
    private long seedNow;

    public ClapOaths() {
        text = new Text();
        reader = new Reader(text);
        draft = new County();
        land = new County();
        now = new Standing(land);
        trial = new Standing(land);
        acts = new Acts();
        hearings = new Heard();
        kept = new int[SLOTS * Standing.SIZE];
        keptSlots = 0;
        seedNow = 0L;
    }

    // ---- the county

    public int write(int letter) {
        if (!within(letter, 0, 255)) {
            return OUTSIDE;
        }
        if (text.length >= MOST_LETTERS) {
            return FULL;
        }
        return text.add(letter);
    }

    public int wipe() {
        int was = text.length;
        text.length = 0;
        return was;
    }

    public int fault() {
        return reader.readInto(draft);
    }

    public int county() {
        // The draft takes the first reading, so that a FAULT leaves THE COUNTY as it is.
        if (reader.readInto(draft) != NONE) {
            return STATE;
        }
        reader.readInto(land);
        now.begin();
        acts.length = 0;
        keptSlots = 0;
        return 100 * land.persons + 10 * land.skies + land.oaths;
    }

    public int person(int person, int what) {
        if (!land.hasPerson(person)) {
            return UNKNOWN;
        }
        switch (what) {
            case 0:
                return now.placeOf(person);
            case 1:
                return at(land.kinds, person);
            case 2:
                return bit(now.wool, person);
            case 3:
                return land.oathsOf(person);
            case 4:
                return land.oathsOf(person) & now.sworn;
            case 5:
                return bit(now.skyHearers(), person);
            default:
                return OUTSIDE;
        }
    }

    public int oath(int oath, int what) {
        if (!land.hasOath(oath)) {
            return UNKNOWN;
        }
        switch (what) {
            case 0:
                return at(land.ones, oath);
            case 1:
                return at(land.others, oath);
            case 2:
                return at(land.worths, oath);
            case 3:
                return at(land.hangs, oath);
            case 4:
                return bit(now.sworn, oath);
            default:
                return OUTSIDE;
        }
    }

    // ---- acts

    public int day() {
        acts.push(now);
        return now.passDay(true);
    }

    public int drum(int place, int loud) {
        if (!isPlace(place)) {
            return UNKNOWN;
        }
        if (!within(loud, 0, LOUDEST)) {
            return OUTSIDE;
        }
        acts.push(now);
        return now.freeBy(now.hearers(place, loud));
    }

    public int swear(int oath) {
        if (!land.hasOath(oath)) {
            return UNKNOWN;
        }
        if (!now.canSwear(oath)) {
            return STATE;
        }
        acts.push(now);
        now.sworn |= 1 << oath;
        return Integer.bitCount(now.sworn);
    }

    public int form(int oath) {
        if (!land.hasOath(oath)) {
            return UNKNOWN;
        }
        if (!now.isSworn(oath)) {
            return STATE;
        }
        acts.push(now);
        return now.letOff(oath);
    }

    public int move(int person, int place) {
        if (!land.hasPerson(person) || !isPlace(place)) {
            return UNKNOWN;
        }
        int was = now.placeOf(person);
        if (was == place) {
            return STATE;
        }
        acts.push(now);
        now.putAt(person, place);
        return was;
    }

    public int wool(int person) {
        if (!land.hasPerson(person)) {
            return UNKNOWN;
        }
        if (!land.canTurnWool(person)) {
            return STATE;
        }
        acts.push(now);
        now.wool ^= 1 << person;
        return bit(now.wool, person);
    }

    public int undo() {
        if (acts.length == 0) {
            return STATE;
        }
        return acts.pop(now);
    }

    // ---- days to come

    public int later(int n, int what) {
        if (!within(n, 0, MOST_DAYS) || !within(what, 0, 1)) {
            return OUTSIDE;
        }
        trial.copyFrom(now);
        trial.passDays(n);
        return what == 0 ? trial.sworn : trial.worth;
    }

    public int lasts(int oath) {
        if (!land.hasOath(oath)) {
            return UNKNOWN;
        }
        if (!now.isSworn(oath)) {
            return STATE;
        }
        trial.copyFrom(now);
        for (int days = 1; days <= MOST_DAYS; days++) {
            trial.passDay(true);
            if (!trial.isSworn(oath)) {
                return days;
            }
        }
        return NONE;
    }

    public int best(int person, int n, int what) {
        if (!land.hasPerson(person)) {
            return UNKNOWN;
        }
        if (!within(n, 1, 9) || !within(what, 0, 1)) {
            return OUTSIDE;
        }
        int bestPlace = 0;
        int most = -1;
        for (int place = 0; place <= LAST_PLACE; place++) {
            trial.copyFrom(now);
            trial.putAt(person, place);
            trial.passDays(n);
            if (trial.worth > most) {
                most = trial.worth;
                bestPlace = place;
            }
        }
        return what == 0 ? bestPlace : most;
    }

    public int frees(int oaths, int what) {
        if (!within(oaths, 0, (1 << land.oaths) - 1) || !within(what, 0, 1)) {
            return OUTSIDE;
        }
        for (int loud = 0; loud <= LOUDEST; loud++) {
            for (int place = 0; place <= LAST_PLACE; place++) {
                trial.copyFrom(now);
                trial.freeBy(trial.hearers(place, loud));
                if ((trial.sworn & oaths) == 0) {
                    return what == 0 ? loud : place;
                }
            }
        }
        return NONE;
    }

    public int judge(int n, long row) {
        if (!within(n, 1, 4) || row < 0L || row >= thousands(n)) {
            return OUTSIDE;
        }
        trial.copyFrom(now);
        for (int i = 0; i < n; i++) {
            int figures = figuresAt(row, n - 1 - i);
            if (!canHappen(figures / 100, figures / 10 % 10, figures % 10)) {
                return i;
            }
        }
        return NONE;
    }

    // ---- heard

    public int hear(int place, int wool, int heard) {
        if (!isPlace(place)) {
            return UNKNOWN;
        }
        if (!within(wool, 0, 1) || !within(heard, 0, 1)) {
            return OUTSIDE;
        }
        if (hearings.length >= MOST_HEARD) {
            return FULL;
        }
        return hearings.add(place, wool, heard);
    }

    public int unhear() {
        int was = hearings.length;
        hearings.length = 0;
        return was;
    }

    public int which(int what) {
        if (!within(what, 0, 1)) {
            return OUTSIDE;
        }
        int howMany = 0;
        int first = NONE;
        for (int clap = 0; clap < 100; clap++) {
            if (hearings.fits(clap / 10, clap % 10)) {
                howMany++;
                first = first == NONE ? clap : first;
            }
        }
        return what == 0 ? howMany : first;
    }

    // ---- shares, rests, chances

    public int share(int person, boolean upper) {
        if (!land.hasPerson(person)) {
            return UNKNOWN;
        }
        // An OATH counts when the later of its two PERSONS comes, and either is the later
        // one in half of all orders: so the mean is half of the WORTHS.
        return fraction(land.worthOf(land.oathsOf(person) & now.sworn), 2, upper);
    }

    public int rests(int one, int other, int what) {
        if (!land.hasPerson(one) || !land.hasPerson(other)) {
            return UNKNOWN;
        }
        if (one == other || !within(what, 0, 1)) {
            return OUTSIDE;
        }
        if (land.isOf(one, DEAF) || land.isOf(other, DEAF)) {
            return STATE;
        }
        int howMany = 0;
        int first = NONE;
        for (int pair = 0; pair < 4; pair++) {
            int a = pair / 2;
            int b = pair % 2;
            if (isBest(one, a, other, b) && isBest(other, b, one, a)) {
                howMany++;
                first = first == NONE ? 10 * a + b : first;
            }
        }
        return what == 0 ? howMany : first;
    }

    public int comes(int oath, int n, int x, boolean upper) {
        if (!land.hasOath(oath)) {
            return UNKNOWN;
        }
        if (!within(n, 1, 6) || !within(x, 0, 10)) {
            return OUTSIDE;
        }
        int all = 1;
        for (int i = 0; i < n; i++) {
            all *= 10;
        }
        int swornOnes = 0;
        for (int claps = 0; claps < 1 << n; claps++) {
            swornOnes += weightIfSworn(oath, n, x, claps);
        }
        return fraction(swornOnes, all, upper);
    }

    public long seed(long v) {
        long was = seedNow;
        seedNow = v;
        return was;
    }

    public int years(int m) {
        if (!within(m, 1, 30)) {
            return OUTSIDE;
        }
        trial.copyFrom(now);
        int together = 0;
        for (int i = 0; i < m; i++) {
            seedNow = seedNow * SEED_TIMES + SEED_MORE;
            chanceUpon((int) ((seedNow >>> 33) % 40L));
            together += Integer.bitCount(trial.sworn);
        }
        return together;
    }

    // ---- slots

    public int keep(int slot) {
        if (!within(slot, 0, SLOTS - 1)) {
            return UNKNOWN;
        }
        now.saveTo(kept, slot);
        keptSlots |= 1 << slot;
        return now.day;
    }

    public int again(int slot) {
        if (!within(slot, 0, SLOTS - 1)) {
            return UNKNOWN;
        }
        if (bit(keptSlots, slot) == 0) {
            return STATE;
        }
        now.loadFrom(kept, slot);
        acts.length = 0;
        return now.day;
    }

    public int count(int what) {
        switch (what) {
            case 0:
                return text.length;
            case 1:
                return land.persons;
            case 2:
                return land.skies;
            case 3:
                return land.oaths;
            case 4:
                return now.day;
            case 5:
                return now.sworn;
            case 6:
                return now.worth;
            case 7:
                return now.wool;
            case 8:
                return now.skyHearers();
            case 9:
                return acts.length;
            case 10:
                return hearings.length;
            default:
                return OUTSIDE;
        }
    }

    // ---- what the calls above are made of

    /** Does a told doing to the trial, if it can be; a doing that the document has no form for can not be. */
    private boolean canHappen(int doing, int second, int third) {
        if (doing == 1) {
            trial.freeBy(trial.hearers(second, third));
            return true;
        }
        if (doing == 4) {
            return trial.tryMove(second, third);
        }
        if (second != 0) {
            return false;
        }
        switch (doing) {
            case 0:
                trial.passDays(third == 0 ? 1 : 0);
                return third == 0;
            case 2:
                return trial.trySwear(third);
            case 3:
                return trial.tryLetOff(third);
            case 5:
                return trial.tryWool(third);
            case 6:
                return trial.isSworn(third);
            default:
                return false;
        }
    }

    /** What a number below 40 does to the trial in YEARS, if it can be. */
    private void chanceUpon(int number) {
        if (number < 10) {
            trial.freeBy(trial.hearers(number, 3));
        } else if (number < 20) {
            trial.tryMove((number - 10) / 2, number % 2 == 0 ? 0 : LAST_PLACE);
        } else if (number < 25) {
            trial.trySwear(number - 20);
        } else if (number < 30) {
            trial.tryWool(number - 25);
        } else {
            trial.passDay(true);
        }
    }

    /** Whether its own choice leaves a PERSON with no less than its other choice, the other PERSON's choice being as it is. */
    private boolean isBest(int own, int choice, int other, int otherChoice) {
        return gain(own, choice, other, otherChoice) >= gain(own, 1 - choice, other, otherChoice);
    }

    private int gain(int own, int choice, int other, int otherChoice) {
        trial.copyFrom(now);
        trial.chooseWool(own, choice);
        trial.chooseWool(other, otherChoice);
        trial.passDay(true);
        return land.worthOf(land.oathsOf(own) & trial.sworn) - choice;
    }

    /** In how many of 10 to the power of n cases just these CLAPS (bits) come; 0 if the OATH is FREE behind them. */
    private int weightIfSworn(int oath, int n, int x, int claps) {
        int weight = 1;
        trial.copyFrom(now);
        for (int i = 0; i < n; i++) {
            boolean clapComes = bit(claps, i) == 1;
            weight *= clapComes ? 10 - x : x;
            trial.passDay(clapComes);
        }
        return trial.isSworn(oath) ? weight : 0;
    }

    private static boolean within(int number, int least, int most) {
        return number >= least && number <= most;
    }

    private static boolean isPlace(int place) {
        return within(place, 0, LAST_PLACE);
    }

    private static int bit(int bits, int index) {
        return bits >> index & 1;
    }

    private static int at(int[] row, int index) {
        return index >= 0 && index < row.length ? row[index] : 0;
    }

    private static void put(int[] row, int index, int value) {
        if (index >= 0 && index < row.length) {
            row[index] = value;
        }
    }

    /** Whether a CLAP is loud enough for somebody who stands there. */
    private static boolean reaches(int clapPlace, int loud, int place, boolean woolIn) {
        int reach = woolIn ? loud / 2 : loud;
        return clapPlace - place <= reach && place - clapPlace <= reach;
    }

    private static long thousands(int power) {
        long answer = 1L;
        for (int i = 0; i < power; i++) {
            answer *= 1000L;
        }
        return answer;
    }

    /** The three figures that have so many threes of figures behind them. */
    private static int figuresAt(long row, int behind) {
        long rest = row;
        for (int i = 0; i < behind; i++) {
            rest /= 1000L;
        }
        return (int) (rest % 1000L);
    }

    /** One side of a fraction in least terms. */
    private static int fraction(int above, int below, boolean upper) {
        int divisor = commonDivisor(above, below);
        return (upper ? above : below) / Math.max(1, divisor);
    }

    private static int commonDivisor(int one, int other) {
        int greater = one;
        int lesser = other;
        // Euclid's steps on ints are fewer than 50.
        for (int i = 0; i < 64 && lesser != 0; i++) {
            int rest = greater % lesser;
            greater = lesser;
            lesser = rest;
        }
        return greater;
    }

    /** THE TEXT. */
    private static final class Text {
        static final int END = -1;

        final int[] letters;
        int length;

        Text() {
            letters = new int[MOST_LETTERS];
            length = 0;
        }

        int add(int letter) {
            put(letters, length, letter);
            length++;
            return length;
        }

        int letterAt(int place) {
            return place >= 0 && place < length && place < letters.length ? letters[place] : END;
        }
    }

    /**
     * Reads THE TEXT into a COUNTY. The reading stops at the first letter that can not stand there;
     * the end counts as such a letter, which is why one place answers both sorts of FAULT.
     */
    private static final class Reader {
        private final Text text;
        private int place;
        private boolean stopped;

        Reader(Text text) {
            this.text = text;
            this.place = 0;
            this.stopped = false;
        }

        /** FAULT; NONE. */
        int readInto(County county) {
            county.clear();
            place = 0;
            stopped = false;
            readLetter('L');
            for (int part = 0; part < MOST_LETTERS && !stopped && place < text.length; part++) {
                readPart(county);
            }
            return stopped ? place : NONE;
        }

        private void readPart(County county) {
            switch (text.letterAt(place)) {
                case 'P':
                    readPerson(county);
                    break;
                case 'Q':
                    if (hasRoom(county.skies)) {
                        place++;
                        county.addSky(0, QUIET);
                    }
                    break;
                case 'C':
                    readClap(county);
                    break;
                case 'O':
                    readOath(county);
                    break;
                default:
                    stopped = true;
            }
        }

        private void readPerson(County county) {
            if (hasRoom(county.persons)) {
                place++;
                int where = readFigure(LAST_PLACE);
                int kind = readFigure(MONK);
                if (!stopped) {
                    county.addPerson(where, kind);
                }
            }
        }

        private void readClap(County county) {
            if (hasRoom(county.skies)) {
                place++;
                int where = readFigure(LAST_PLACE);
                int loud = readFigure(LOUDEST);
                if (!stopped) {
                    county.addSky(where, loud);
                }
            }
        }

        private void readOath(County county) {
            // With fewer than two PERSONS told, no letters behind this one could make an OATH.
            if (county.persons < 2) {
                stopped = true;
            } else if (hasRoom(county.oaths)) {
                place++;
                int one = readFigure(county.persons - 1);
                int other = readOther(county.persons - 1, one);
                int worth = readFigure(9);
                int hang = readHang(county.oaths - 1);
                if (!stopped) {
                    county.addOath(one, other, worth, hang);
                }
            }
        }

        private int readOther(int most, int one) {
            if (!stopped && text.letterAt(place) == '0' + one) {
                stopped = true;
            }
            return readFigure(most);
        }

        private int readHang(int most) {
            if (!stopped && text.letterAt(place) == 'n') {
                place++;
                return NONE;
            }
            return readFigure(most);
        }

        private boolean hasRoom(int told) {
            if (told >= MOST_TOLD) {
                stopped = true;
            }
            return !stopped;
        }

        private void readLetter(int letter) {
            if (text.letterAt(place) == letter) {
                place++;
            } else {
                stopped = true;
            }
        }

        private int readFigure(int most) {
            int figure = text.letterAt(place) - '0';
            if (stopped || !within(figure, 0, most)) {
                stopped = true;
                return 0;
            }
            place++;
            return figure;
        }
    }

    /** What a COUNTY's TEXT tells. */
    private static final class County {
        final int[] places;
        final int[] kinds;
        final int[] clapPlaces;
        final int[] louds;
        final int[] ones;
        final int[] others;
        final int[] worths;
        final int[] hangs;
        int persons;
        int skies;
        int oaths;

        County() {
            places = new int[MOST_TOLD];
            kinds = new int[MOST_TOLD];
            clapPlaces = new int[MOST_TOLD];
            louds = new int[MOST_TOLD];
            ones = new int[MOST_TOLD];
            others = new int[MOST_TOLD];
            worths = new int[MOST_TOLD];
            hangs = new int[MOST_TOLD];
            persons = 0;
            skies = 0;
            oaths = 0;
        }

        void clear() {
            persons = 0;
            skies = 0;
            oaths = 0;
        }

        void addPerson(int place, int kind) {
            put(places, persons, place);
            put(kinds, persons, kind);
            persons++;
        }

        void addSky(int place, int loud) {
            put(clapPlaces, skies, place);
            put(louds, skies, loud);
            skies++;
        }

        void addOath(int one, int other, int worth, int hang) {
            put(ones, oaths, one);
            put(others, oaths, other);
            put(worths, oaths, worth);
            put(hangs, oaths, hang);
            oaths++;
        }

        boolean hasPerson(int person) {
            return within(person, 0, persons - 1);
        }

        boolean hasOath(int oath) {
            return within(oath, 0, oaths - 1);
        }

        boolean isOf(int person, int kind) {
            return hasPerson(person) && at(kinds, person) == kind;
        }

        boolean canTurnWool(int person) {
            return isOf(person, PLAIN) || isOf(person, MONK);
        }

        /** The SKY of a DAY; NONE. */
        int skyOn(int day) {
            // Math.max is a precaution: OpenJDK 17.0.15 can move such a division ahead of the test
            // that guards it (NOTES.md), so the divisor itself is kept above 0.
            return skies > 0 ? Math.floorMod(day, Math.max(1, skies)) : NONE;
        }

        /** The OATHS of a PERSON (bits). */
        int oathsOf(int person) {
            int bits = 0;
            for (int oath = 0; oath < oaths; oath++) {
                if (at(ones, oath) == person || at(others, oath) == person) {
                    bits |= 1 << oath;
                }
            }
            return bits;
        }

        /** The WORTHS of some OATHS (bits) together. */
        int worthOf(int bits) {
            int sum = 0;
            for (int oath = 0; oath < oaths; oath++) {
                sum += bit(bits, oath) * at(worths, oath);
            }
            return sum;
        }
    }

    /** What changes in a COUNTY as DAYS and ACTS go by. */
    private static final class Standing {
        static final int SIZE = 5;

        final County land;
        /** Four bits a PERSON, so that a whole standing is copied without a row of its own. */
        int places;
        int wool;
        int sworn;
        int worth;
        int day;

        Standing(County land) {
            this.land = land;
            this.places = 0;
            this.wool = 0;
            this.sworn = 0;
            this.worth = 0;
            this.day = 0;
        }

        void begin() {
            places = 0;
            wool = 0;
            for (int person = 0; person < land.persons; person++) {
                putAt(person, at(land.places, person));
                chooseWool(person, 0);
            }
            sworn = (1 << land.oaths) - 1;
            worth = 0;
            day = 0;
        }

        void copyFrom(Standing from) {
            places = from.places;
            wool = from.wool;
            sworn = from.sworn;
            worth = from.worth;
            day = from.day;
        }

        void saveTo(int[] row, int slot) {
            int from = slot * SIZE;
            put(row, from, places);
            put(row, from + 1, wool);
            put(row, from + 2, sworn);
            put(row, from + 3, worth);
            put(row, from + 4, day);
        }

        void loadFrom(int[] row, int slot) {
            int from = slot * SIZE;
            places = at(row, from);
            wool = at(row, from + 1);
            sworn = at(row, from + 2);
            worth = at(row, from + 3);
            day = at(row, from + 4);
        }

        int placeOf(int person) {
            return places >> 4 * person & 15;
        }

        void putAt(int person, int place) {
            places = places & ~(15 << 4 * person) | place << 4 * person;
        }

        boolean isSworn(int oath) {
            return land.hasOath(oath) && bit(sworn, oath) == 1;
        }

        boolean canSwear(int oath) {
            if (!land.hasOath(oath) || isSworn(oath)) {
                return false;
            }
            int hang = at(land.hangs, oath);
            return hang == NONE || isSworn(hang);
        }

        boolean trySwear(int oath) {
            if (!canSwear(oath)) {
                return false;
            }
            sworn |= 1 << oath;
            return true;
        }

        boolean tryLetOff(int oath) {
            if (!isSworn(oath)) {
                return false;
            }
            letOff(oath);
            return true;
        }

        boolean tryMove(int person, int place) {
            if (!land.hasPerson(person) || placeOf(person) == place) {
                return false;
            }
            putAt(person, place);
            return true;
        }

        boolean tryWool(int person) {
            if (!land.canTurnWool(person)) {
                return false;
            }
            wool ^= 1 << person;
            return true;
        }

        /** WOOL in (1) or not (0); one of KIND WOOL has it in whatever it chooses. */
        void chooseWool(int person, int choice) {
            if (choice == 1 || land.isOf(person, WOOL)) {
                wool |= 1 << person;
            } else {
                wool &= ~(1 << person);
            }
        }

        /** Who HEARS a CLAP (bits). */
        int hearers(int place, int loud) {
            int bits = 0;
            for (int person = 0; person < land.persons; person++) {
                boolean loudEnough = reaches(place, loud, placeOf(person), bit(wool, person) == 1);
                if (loudEnough && at(land.kinds, person) != DEAF) {
                    bits |= 1 << person;
                }
            }
            return bits;
        }

        /** Who HEARS the SKY of THE DAY (bits). */
        int skyHearers() {
            int sky = land.skyOn(day);
            if (sky == NONE || at(land.louds, sky) == QUIET) {
                return 0;
            }
            return hearers(at(land.clapPlaces, sky), at(land.louds, sky));
        }

        /** OATHS are FREE by a CLAP that these PERSONS (bits) HEARD: how many. */
        int freeBy(int hearers) {
            int before = sworn;
            for (int oath = 0; oath < land.oaths; oath++) {
                if (letsOut(oath, hearers)) {
                    sworn &= ~(1 << oath);
                }
            }
            return freeHanging(before);
        }

        private boolean letsOut(int oath, int hearers) {
            int one = at(land.ones, oath);
            int other = at(land.others, oath);
            boolean oneHeard = bit(hearers, one) == 1;
            boolean otherHeard = bit(hearers, other) == 1;
            return oneHeard && otherHeard
                || oneHeard && at(land.kinds, one) == MONK
                || otherHeard && at(land.kinds, other) == MONK;
        }

        /** LET OFF: how many OATHS are FREE by it. */
        int letOff(int oath) {
            int before = sworn;
            sworn &= ~(1 << oath);
            return freeHanging(before);
        }

        private int freeHanging(int before) {
            // One round is enough: an OATH hangs only on one that was told ahead of it.
            for (int oath = 0; oath < land.oaths; oath++) {
                int hang = at(land.hangs, oath);
                if (hang != NONE && bit(sworn, hang) == 0) {
                    sworn &= ~(1 << oath);
                }
            }
            return Integer.bitCount(before) - Integer.bitCount(sworn);
        }

        /** A DAY, whose CLAP may be kept from coming: how many OATHS are FREE by it. */
        int passDay(boolean clapComes) {
            int freed = clapComes ? freeBy(skyHearers()) : 0;
            worth = Math.min(MOST_WORTH, worth + land.worthOf(sworn));
            day++;
            return freed;
        }

        void passDays(int n) {
            for (int i = 0; i < n; i++) {
                passDay(true);
            }
        }
    }

    /** THE ROW of ACTS: of each what stood ahead of it. */
    private static final class Acts {
        final int[] row;
        int length;

        Acts() {
            row = new int[MOST_ACTS * Standing.SIZE];
            length = 0;
        }

        void push(Standing now) {
            if (length >= MOST_ACTS) {
                System.arraycopy(row, Standing.SIZE, row, 0, row.length - Standing.SIZE);
                length = MOST_ACTS - 1;
            }
            now.saveTo(row, length);
            length++;
        }

        /** How many are left. */
        int pop(Standing now) {
            if (length > 0) {
                length--;
                now.loadFrom(row, length);
            }
            return length;
        }
    }

    /** What is HEARD of an unknown CLAP. */
    private static final class Heard {
        final int[] places;
        final int[] wools;
        final int[] answers;
        int length;

        Heard() {
            places = new int[MOST_HEARD];
            wools = new int[MOST_HEARD];
            answers = new int[MOST_HEARD];
            length = 0;
        }

        int add(int place, int wool, int answer) {
            put(places, length, place);
            put(wools, length, wool);
            put(answers, length, answer);
            length++;
            return length;
        }

        /** Whether all that is HEARD would be so by this CLAP. */
        boolean fits(int clapPlace, int loud) {
            for (int i = 0; i < length; i++) {
                boolean reached = reaches(clapPlace, loud, at(places, i), at(wools, i) == 1);
                if (reached != (at(answers, i) == 1)) {
                    return false;
                }
            }
            return true;
        }
    }
}
