import java.math.BigInteger;
import java.util.ArrayList;
import java.util.List;

/**
 * The document said a second time, by lists and by trying everything out, with none of the
 * short cuts of ClapOaths: ModelTests holds the two against each other.
 */
final class Model {
    static final int UNKNOWN = -1, OUTSIDE = -2, STATE = -3, FULL = -4, NONE = -9;

    /** What is kept, undone and tried out. */
    static final class Now {
        int[] place = new int[0];
        boolean[] wool = new boolean[0];
        boolean[] sworn = new boolean[0];
        int worth;
        int day;

        Now copy() {
            Now c = new Now();
            c.place = place.clone();
            c.wool = wool.clone();
            c.sworn = sworn.clone();
            c.worth = worth;
            c.day = day;
            return c;
        }
    }

    String text = "";
    List<int[]> persons = new ArrayList<>();
    List<int[]> skies = new ArrayList<>();
    List<int[]> oaths = new ArrayList<>();
    Now now = new Now();
    List<Now> acts = new ArrayList<>();
    Now[] kept = new Now[2];
    List<int[]> heard = new ArrayList<>();
    BigInteger seed = BigInteger.ZERO;

    int write(int letter) {
        if (letter < 0 || letter > 255) return OUTSIDE;
        if (text.length() == 60) return FULL;
        text += (char) letter;
        return text.length();
    }

    int wipe() {
        int n = text.length();
        text = "";
        return n;
    }

    /** The parts of a text that is a county (its length set aside), or null. */
    private static List<String> parts(String t) {
        if (!t.matches("(?s)L(P[0-9][0-3]|Q|C[0-9][0-9]|O[0-4][0-4][0-9][0-4n])*")) return null;
        List<String> parts = new ArrayList<>();
        int p = 0, s = 0, o = 0;
        for (int i = 1; i < t.length(); ) {
            char c = t.charAt(i);
            int n = c == 'Q' ? 1 : c == 'O' ? 5 : 3;
            String part = t.substring(i, i + n);
            if (c == 'P') p++;
            if (c == 'Q' || c == 'C') s++;
            if (c == 'O') {
                int a = part.charAt(1) - '0', b = part.charAt(2) - '0';
                if (a == b || a >= p || b >= p) return null;
                if (part.charAt(4) != 'n' && part.charAt(4) - '0' >= o) return null;
                o++;
            }
            if (p > 5 || s > 5 || o > 5) return null;
            parts.add(part);
            i += n;
        }
        return parts;
    }

    /** Whether some letters behind it make it a county, by trying those that can matter. */
    private static boolean viable(String t, int more) {
        if (parts(t) != null) return true;
        if (more == 0) return false;
        for (char c : (t.isEmpty() ? "L" : "01n").toCharArray()) {
            if (viable(t + c, more - 1)) return true;
        }
        return false;
    }

    int fault() {
        for (int i = 0; i < text.length(); i++) {
            if (!viable(text.substring(0, i + 1), 4)) return i;
        }
        return parts(text) == null ? text.length() : NONE;
    }

    int county() {
        if (fault() != NONE) return STATE;
        persons.clear();
        skies.clear();
        oaths.clear();
        for (String part : parts(text)) {
            int[] f = new int[4];
            for (int i = 1; i < part.length(); i++) f[i - 1] = part.charAt(i) == 'n' ? NONE : part.charAt(i) - '0';
            switch (part.charAt(0)) {
                case 'P': persons.add(f); break;
                case 'Q': skies.add(null); break;
                case 'C': skies.add(f); break;
                default: oaths.add(f);
            }
        }
        now = new Now();
        now.place = new int[persons.size()];
        now.wool = new boolean[persons.size()];
        now.sworn = new boolean[oaths.size()];
        for (int i = 0; i < persons.size(); i++) {
            now.place[i] = persons.get(i)[0];
            now.wool[i] = persons.get(i)[1] == 1;
        }
        java.util.Arrays.fill(now.sworn, true);
        acts.clear();
        kept = new Now[2];
        return 100 * persons.size() + 10 * skies.size() + oaths.size();
    }

    private boolean noPerson(int p) { return p < 0 || p >= persons.size(); }
    private boolean noOath(int o) { return o < 0 || o >= oaths.size(); }
    private static boolean noPlace(int p) { return p < 0 || p > 9; }

    private static int bits(boolean[] row) {
        int b = 0;
        for (int i = 0; i < row.length; i++) if (row[i]) b += (int) Math.pow(2, i);
        return b;
    }

    private static int many(boolean[] row) {
        int n = 0;
        for (boolean b : row) if (b) n++;
        return n;
    }

    private boolean[] oathsOf(int p) {
        boolean[] row = new boolean[oaths.size()];
        for (int i = 0; i < row.length; i++) row[i] = oaths.get(i)[0] == p || oaths.get(i)[1] == p;
        return row;
    }

    private boolean hears(Now s, int p, int place, int loud) {
        if (persons.get(p)[1] == 2) return false;
        int far = Math.abs(s.place[p] - place);
        return s.wool[p] ? 2 * far <= loud : far <= loud;
    }

    /** Math.max: OpenJDK 17.0.15 moves the bare division ahead of the test for none, and dies of it. */
    private int[] sky(Now s) { return skies.isEmpty() ? null : skies.get(s.day % Math.max(1, skies.size())); }

    private boolean hearsSky(Now s, int p) {
        int[] sky = sky(s);
        return sky != null && hears(s, p, sky[0], sky[1]);
    }

    int person(int p, int what) {
        if (noPerson(p)) return UNKNOWN;
        boolean[] own = oathsOf(p);
        if (what == 4) for (int i = 0; i < own.length; i++) own[i] &= now.sworn[i];
        if (what == 0) return now.place[p];
        if (what == 1) return persons.get(p)[1];
        if (what == 2) return now.wool[p] ? 1 : 0;
        if (what == 3 || what == 4) return bits(own);
        if (what == 5) return hearsSky(now, p) ? 1 : 0;
        return OUTSIDE;
    }

    int oath(int o, int what) {
        if (noOath(o)) return UNKNOWN;
        if (what < 0 || what > 4) return OUTSIDE;
        return what == 4 ? (now.sworn[o] ? 1 : 0) : oaths.get(o)[what];
    }

    private void spread(Now s) {
        boolean more = true;
        while (more) {
            more = false;
            for (int i = 0; i < oaths.size(); i++) {
                int h = oaths.get(i)[3];
                if (s.sworn[i] && h != NONE && !s.sworn[h]) {
                    s.sworn[i] = false;
                    more = true;
                }
            }
        }
    }

    private int clap(Now s, int place, int loud) {
        int before = many(s.sworn);
        for (int i = 0; i < oaths.size(); i++) {
            int a = oaths.get(i)[0], b = oaths.get(i)[1];
            boolean ha = hears(s, a, place, loud), hb = hears(s, b, place, loud);
            if (ha && hb) s.sworn[i] = false;
            if (ha && persons.get(a)[1] == 3) s.sworn[i] = false;
            if (hb && persons.get(b)[1] == 3) s.sworn[i] = false;
        }
        spread(s);
        return before - many(s.sworn);
    }

    private int aDay(Now s, boolean comes) {
        int[] sky = sky(s);
        int freed = comes && sky != null ? clap(s, sky[0], sky[1]) : 0;
        for (int i = 0; i < oaths.size(); i++) if (s.sworn[i]) s.worth += oaths.get(i)[2];
        if (s.worth > 9999) s.worth = 9999;
        s.day++;
        return freed;
    }

    private boolean canSwear(Now s, int o) {
        return !noOath(o) && !s.sworn[o] && (oaths.get(o)[3] == NONE || s.sworn[oaths.get(o)[3]]);
    }

    private boolean canWool(int p) { return !noPerson(p) && persons.get(p)[1] % 3 == 0; }

    private void act() {
        acts.add(now.copy());
        if (acts.size() > 14) acts.remove(0);
    }

    int day() {
        act();
        return aDay(now, true);
    }

    int drum(int place, int loud) {
        if (noPlace(place)) return UNKNOWN;
        if (loud < 0 || loud > 9) return OUTSIDE;
        act();
        return clap(now, place, loud);
    }

    int swear(int o) {
        if (noOath(o)) return UNKNOWN;
        if (!canSwear(now, o)) return STATE;
        act();
        now.sworn[o] = true;
        return many(now.sworn);
    }

    int form(int o) {
        if (noOath(o)) return UNKNOWN;
        if (!now.sworn[o]) return STATE;
        act();
        int before = many(now.sworn);
        now.sworn[o] = false;
        spread(now);
        return before - many(now.sworn);
    }

    int move(int p, int place) {
        if (noPerson(p) || noPlace(place)) return UNKNOWN;
        int was = now.place[p];
        if (was == place) return STATE;
        act();
        now.place[p] = place;
        return was;
    }

    int wool(int p) {
        if (noPerson(p)) return UNKNOWN;
        if (!canWool(p)) return STATE;
        act();
        now.wool[p] = !now.wool[p];
        return now.wool[p] ? 1 : 0;
    }

    int undo() {
        if (acts.isEmpty()) return STATE;
        now = acts.remove(acts.size() - 1);
        return acts.size();
    }

    int later(int n, int what) {
        if (n < 0 || n > 30 || what < 0 || what > 1) return OUTSIDE;
        Now s = now.copy();
        for (int i = 0; i < n; i++) aDay(s, true);
        return what == 0 ? bits(s.sworn) : s.worth;
    }

    int lasts(int o) {
        if (noOath(o)) return UNKNOWN;
        if (!now.sworn[o]) return STATE;
        for (int n = 1; n <= 30; n++) if ((later(n, 0) >> o) % 2 == 0) return n;
        return NONE;
    }

    int best(int p, int n, int what) {
        if (noPerson(p)) return UNKNOWN;
        if (n < 1 || n > 9 || what < 0 || what > 1) return OUTSIDE;
        int where = 0, most = 0;
        for (int place = 9; place >= 0; place--) {
            Now s = now.copy();
            s.place[p] = place;
            for (int i = 0; i < n; i++) aDay(s, true);
            if (place == 9 || s.worth >= most) {
                where = place;
                most = s.worth;
            }
        }
        return what == 0 ? where : most;
    }

    int frees(int these, int what) {
        if (these < 0 || these >= Math.pow(2, oaths.size()) || what < 0 || what > 1) return OUTSIDE;
        for (int loud = 0; loud < 10; loud++) {
            place:
            for (int place = 0; place < 10; place++) {
                Now s = now.copy();
                clap(s, place, loud);
                for (int i = 0; i < oaths.size(); i++) if ((these >> i) % 2 == 1 && s.sworn[i]) continue place;
                return what == 0 ? loud : place;
            }
        }
        return NONE;
    }

    int judge(int n, long row) {
        if (n < 1 || n > 4 || row < 0 || Long.toString(row).length() > 3 * n) return OUTSIDE;
        String figures = Long.toString(row);
        while (figures.length() < 3 * n) figures = "0" + figures;
        Now s = now.copy();
        for (int i = 0; i < n; i++) {
            int b = figures.charAt(3 * i + 1) - '0', c = figures.charAt(3 * i + 2) - '0';
            if (!doing(s, figures.charAt(3 * i), b, c)) return i;
        }
        return NONE;
    }

    private boolean doing(Now s, char a, int b, int c) {
        if ("02356".indexOf(a) >= 0 && b != 0) return false;
        if (a == '0') {
            if (c != 0) return false;
            aDay(s, true);
        } else if (a == '1') {
            clap(s, b, c);
        } else if (a == '2') {
            if (!canSwear(s, c)) return false;
            s.sworn[c] = true;
        } else if (a == '3') {
            if (noOath(c) || !s.sworn[c]) return false;
            s.sworn[c] = false;
            spread(s);
        } else if (a == '4') {
            if (noPerson(b) || s.place[b] == c) return false;
            s.place[b] = c;
        } else if (a == '5') {
            if (!canWool(c)) return false;
            s.wool[c] = !s.wool[c];
        } else {
            return a == '6' && !noOath(c) && s.sworn[c];
        }
        return true;
    }

    int hear(int place, int wool, int was) {
        if (noPlace(place)) return UNKNOWN;
        if (wool < 0 || wool > 1 || was < 0 || was > 1) return OUTSIDE;
        if (heard.size() == 6) return FULL;
        heard.add(new int[] {place, wool, was});
        return heard.size();
    }

    int unhear() {
        int n = heard.size();
        heard.clear();
        return n;
    }

    int which(int what) {
        if (what < 0 || what > 1) return OUTSIDE;
        List<Integer> fit = new ArrayList<>();
        for (int place = 0; place < 10; place++) {
            for (int loud = 0; loud < 10; loud++) {
                boolean all = true;
                for (int[] h : heard) {
                    int far = Math.abs(h[0] - place);
                    boolean hears = h[1] == 1 ? 2 * far <= loud : far <= loud;
                    all &= hears == (h[2] == 1);
                }
                if (all) fit.add(10 * place + loud);
            }
        }
        return what == 0 ? fit.size() : fit.isEmpty() ? NONE : fit.get(0);
    }

    private static int told(long above, long below, boolean upper) {
        BigInteger a = BigInteger.valueOf(above), b = BigInteger.valueOf(below);
        return (upper ? a : b).divide(a.gcd(b)).intValue();
    }

    private long more;
    private long orders;

    /** All orders of coming, one by one. */
    private void come(List<Integer> came, int p) {
        if (came.size() == persons.size()) {
            orders++;
            List<Integer> ahead = came.subList(0, came.indexOf(p));
            for (int i = 0; i < oaths.size(); i++) {
                int a = oaths.get(i)[0], b = oaths.get(i)[1];
                if (!now.sworn[i]) continue;
                if (a == p && ahead.contains(b) || b == p && ahead.contains(a)) more += oaths.get(i)[2];
            }
            return;
        }
        for (int q = 0; q < persons.size(); q++) {
            if (came.contains(q)) continue;
            came.add(q);
            come(came, p);
            came.remove(came.size() - 1);
        }
    }

    int share(int p, boolean upper) {
        if (noPerson(p)) return UNKNOWN;
        more = 0;
        orders = 0;
        come(new ArrayList<>(), p);
        return told(more, orders, upper);
    }

    int rests(int one, int other, int what) {
        if (noPerson(one) || noPerson(other)) return UNKNOWN;
        if (one == other || what < 0 || what > 1) return OUTSIDE;
        if (persons.get(one)[1] == 2 || persons.get(other)[1] == 2) return STATE;
        int[][][] has = new int[2][2][2];
        for (int a = 0; a < 2; a++) {
            for (int b = 0; b < 2; b++) {
                Now s = now.copy();
                s.wool[one] = a == 1 || persons.get(one)[1] == 1;
                s.wool[other] = b == 1 || persons.get(other)[1] == 1;
                aDay(s, true);
                has[a][b][0] = worths(s, one) - a;
                has[a][b][1] = worths(s, other) - b;
            }
        }
        List<Integer> rest = new ArrayList<>();
        for (int a = 0; a < 2; a++) {
            for (int b = 0; b < 2; b++) {
                boolean moves = has[1 - a][b][0] > has[a][b][0] || has[a][1 - b][1] > has[a][b][1];
                if (!moves) rest.add(10 * a + b);
            }
        }
        return what == 0 ? rest.size() : rest.isEmpty() ? NONE : rest.get(0);
    }

    private int worths(Now s, int p) {
        int sum = 0;
        for (int i = 0; i < oaths.size(); i++) if (s.sworn[i] && oathsOf(p)[i]) sum += oaths.get(i)[2];
        return sum;
    }

    private long cases(Now s, int o, int n, int x) {
        if (n == 0) return s.sworn[o] ? 1 : 0;
        Now with = s.copy(), without = s.copy();
        aDay(with, true);
        aDay(without, false);
        return (10 - x) * cases(with, o, n - 1, x) + x * cases(without, o, n - 1, x);
    }

    int comes(int o, int n, int x, boolean upper) {
        if (noOath(o)) return UNKNOWN;
        if (n < 1 || n > 6 || x < 0 || x > 10) return OUTSIDE;
        return told(cases(now, o, n, x), (long) Math.pow(10, n), upper);
    }

    long seed(long v) {
        long was = seed.longValue();
        seed = BigInteger.valueOf(v);
        return was;
    }

    int years(int m) {
        if (m < 1 || m > 30) return OUTSIDE;
        BigInteger whole = BigInteger.ONE.shiftLeft(64);
        Now s = now.copy();
        int sum = 0;
        for (int i = 0; i < m; i++) {
            seed = seed.multiply(new BigInteger("6364136223846793005")).add(new BigInteger("1442695040888963407")).mod(whole);
            int k = seed.divide(BigInteger.ONE.shiftLeft(33)).mod(BigInteger.valueOf(40)).intValue();
            if (k <= 9) clap(s, k, 3);
            else if (k <= 19) {
                int p = (k - 10) / 2;
                if (!noPerson(p)) s.place[p] = (k - 10) % 2 == 0 ? 0 : 9;
            } else if (k <= 24) {
                if (canSwear(s, k - 20)) s.sworn[k - 20] = true;
            } else if (k <= 29) {
                if (canWool(k - 25)) s.wool[k - 25] = !s.wool[k - 25];
            } else aDay(s, true);
            sum += many(s.sworn);
        }
        return sum;
    }

    int keep(int slot) {
        if (slot < 0 || slot > 1) return UNKNOWN;
        kept[slot] = now.copy();
        return now.day;
    }

    int again(int slot) {
        if (slot < 0 || slot > 1) return UNKNOWN;
        if (kept[slot] == null) return STATE;
        now = kept[slot].copy();
        acts.clear();
        return now.day;
    }

    int count(int what) {
        boolean[] hear = new boolean[persons.size()];
        for (int i = 0; i < hear.length; i++) hear[i] = hearsSky(now, i);
        int[] all = {text.length(), persons.size(), skies.size(), oaths.size(), now.day, bits(now.sworn),
            now.worth, bits(now.wool), bits(hear), acts.size(), heard.size()};
        return what < 0 || what >= all.length ? OUTSIDE : all[what];
    }
}
