import java.math.BigInteger;
import java.util.ArrayList;
import java.util.Arrays;
import java.util.List;
import java.util.TreeSet;
import java.util.regex.Pattern;

/**
 * The document once more, written as unlike the program as may be: with men and lists instead of bits, and with
 * every answer sought by trying all that there is. It is slow, and it is only there to be compared with.
 */
final class Model {
    static final int UNKNOWN = -1, OUTSIDE = -2, STATE = -3, FULL = -4, NONE = -9;

    static final class Man {
        int side, stubborn, kind, hunger;
        boolean there = true;
        TreeSet<Integer> heeds = new TreeSet<>();

        Man copy() {
            Man m = new Man();
            m.side = side;
            m.stubborn = stubborn;
            m.kind = kind;
            m.hunger = hunger;
            m.there = there;
            m.heeds = heeds;
            return m;
        }
    }

    static final class World {
        int need = 1, hour;
        List<Man> men = new ArrayList<>();

        World copy() {
            World w = new World();
            w.need = need;
            w.hour = hour;
            for (Man m : men) {
                w.men.add(m.copy());
            }
            return w;
        }

        int among(int side) {
            int n = 0;
            for (Man m : men) {
                if (m.there && m.side == side) {
                    n++;
                }
            }
            return n;
        }

        int verdict() {
            int all = among(0) + among(1);
            for (int side = 1; side >= 0; side--) {
                boolean unanimous = all > 0 && among(side) == all;
                boolean enough = among(side) >= need && among(side) > among(1 - side);
                if (unanimous || enough) {
                    return side;
                }
            }
            return 9;
        }

        /** Who gave in. */
        List<Integer> hour() {
            List<Integer> gave = new ArrayList<>();
            int verdictAsItBegins = verdict();
            hour = hour + 1;
            if (verdictAsItBegins != 9) {
                return gave;
            }
            for (Man m : men) {
                if (!m.there) {
                    continue;
                }
                int more = 1;
                if (m.kind == 1) {
                    more = 2;
                }
                if (m.kind == 2 && hour % 2 != 0) {
                    more = 0;
                }
                for (int i = 0; i < more; i++) {
                    if (m.hunger < 20) {
                        m.hunger++;
                    }
                }
            }
            for (int i = 0; i < men.size(); i++) {
                Man m = men.get(i);
                if (!m.there) {
                    continue;
                }
                int own = among(m.side);
                int other = among(1 - m.side);
                if (other <= own) {
                    continue;
                }
                int heeded = 0;
                for (int j : m.heeds) {
                    if (men.get(j).there && men.get(j).side != m.side) {
                        heeded++;
                    }
                }
                int together = m.hunger + (other - own) + 2 * heeded;
                if (m.kind == 3) {
                    together = m.hunger;
                }
                if (together >= m.stubborn) {
                    m.side = 1 - m.side;
                    gave.add(i);
                }
            }
            return gave;
        }

        boolean there(int i) {
            return i >= 0 && i < men.size() && men.get(i).there;
        }

        /** Whether a doing can be; it is done, if so. */
        boolean done(int doing, int i) {
            if (doing == 0 && i == 0) {
                hour();
                return true;
            }
            if (doing < 1 || doing > 4 || !there(i)) {
                return false;
            }
            Man m = men.get(i);
            if (doing == 1) {
                if (m.stubborn == 1) {
                    return false;
                }
                m.stubborn--;
            } else if (doing == 2) {
                if (m.hunger == 0) {
                    return false;
                }
                m.hunger = 0;
            } else if (doing == 3) {
                m.there = false;
                hour = 0;
            } else {
                m.side = 1 - m.side;
            }
            return true;
        }

        int[] end() {
            World w = copy();
            for (int n = 0; n <= 20; n++) {
                if (w.verdict() != 9) {
                    return new int[] {n, w.verdict()};
                }
                w.hour();
            }
            return new int[] {NONE, NONE};
        }

        List<Integer> present() {
            List<Integer> those = new ArrayList<>();
            for (int i = 0; i < men.size(); i++) {
                if (men.get(i).there) {
                    those.add(i);
                }
            }
            return those;
        }

        int bitsOf(int side) {
            int bits = 0;
            for (int i : present()) {
                if (men.get(i).side == side) {
                    bits += 1 << i;
                }
            }
            return bits;
        }
    }

    String text = "";
    World now = new World();
    List<World> acts = new ArrayList<>();
    List<int[]> seen = new ArrayList<>();
    World[] kept = new World[2];
    long seed;

    // ---- the jury

    private static final Pattern FORM = Pattern.compile("J[1-6](P[01][1-9][0-3]|H[0-5][0-5])*");

    /** The world of a text, or null, if it is no jury. */
    static World worldOf(String text) {
        if (!FORM.matcher(text).matches()) {
            return null;
        }
        World w = new World();
        w.need = text.charAt(1) - '0';
        for (int at = 2; at < text.length();) {
            int a = text.charAt(at + 1) - '0';
            int b = text.charAt(at + 2) - '0';
            if (text.charAt(at) == 'P') {
                Man m = new Man();
                m.side = a;
                m.stubborn = b;
                m.kind = text.charAt(at + 3) - '0';
                w.men.add(m);
                at += 4;
            } else {
                if (a == b || a >= w.men.size() || b >= w.men.size() || !w.men.get(a).heeds.add(b)) {
                    return null;
                }
                at += 3;
            }
        }
        return w.men.size() > 6 ? null : w;
    }

    /** Whether a jury can begin so: three figures at most are wanting to its next end. */
    static boolean canBegin(String start) {
        if (worldOf(start) != null || worldOf(start + "J1") != null) {
            return true;
        }
        for (int length = 1; length <= 3; length++) {
            int all = (int) Math.pow(10, length);
            for (int i = 0; i < all; i++) {
                if (worldOf(start + String.valueOf(all + i).substring(1)) != null) {
                    return true;
                }
            }
        }
        return false;
    }

    static int faultOf(String text) {
        if (worldOf(text) != null) {
            return NONE;
        }
        for (int place = 0; place < text.length(); place++) {
            if (!canBegin(text.substring(0, place + 1))) {
                return place;
            }
        }
        return text.length();
    }

    int write(int letter) {
        if (letter < 0 || letter > 255) {
            return OUTSIDE;
        }
        if (text.length() == 56) {
            return FULL;
        }
        text += (char) letter;
        return text.length();
    }

    int wipe() {
        int length = text.length();
        text = "";
        return length;
    }

    int jury() {
        World w = worldOf(text);
        if (w == null) {
            return STATE;
        }
        now = w;
        acts.clear();
        kept = new World[2];
        return w.men.size();
    }

    boolean unknown(int i) {
        return i < 0 || i >= now.men.size();
    }

    int juror(int i, int what) {
        if (unknown(i)) {
            return UNKNOWN;
        }
        if (what < 0 || what > 5) {
            return OUTSIDE;
        }
        Man m = now.men.get(i);
        int heeds = 0;
        for (int j : m.heeds) {
            heeds += 1 << j;
        }
        return new int[] {m.side, m.stubborn, m.kind, m.hunger, heeds, m.there ? 1 : 0}[what];
    }

    // ---- acts

    int hour() {
        acts.add(now.copy());
        return now.hour().size();
    }

    /** ARGUED (1) to TOSSED (4). */
    int act(int doing, int i) {
        if (unknown(i)) {
            return UNKNOWN;
        }
        World before = now.copy();
        if (!now.done(doing, i)) {
            return STATE;
        }
        acts.add(before);
        Man m = now.men.get(i);
        int[] answers = {0, m.stubborn, before.men.get(i).hunger, now.present().size(), m.side};
        return answers[doing];
    }

    int rowOfActs() {
        return Math.min(14, acts.size() - forgotten());
    }

    private int forgotten() {
        while (acts.size() > 14) {
            acts.remove(0);
        }
        return 0;
    }

    int undo() {
        if (rowOfActs() == 0) {
            return STATE;
        }
        now = acts.remove(acts.size() - 1);
        return acts.size();
    }

    // ---- verdicts

    int ahead(int n) {
        if (n < 0 || n > 9) {
            return OUTSIDE;
        }
        World w = now.copy();
        for (int i = 0; i < n; i++) {
            w.hour();
        }
        return w.bitsOf(1);
    }

    int end(int what) {
        return what < 0 || what > 1 ? OUTSIDE : now.end()[what];
    }

    int gives(int i) {
        if (unknown(i)) {
            return UNKNOWN;
        }
        if (!now.there(i)) {
            return STATE;
        }
        World w = now.copy();
        for (int n = 1; n <= 20; n++) {
            if (w.hour().contains(i)) {
                return n;
            }
        }
        return NONE;
    }

    /** FEED (2), STRIKE (3): all sets, sorted by how many they are, then as numbers. */
    int fewest(int doing, int v) {
        if (v != 0 && v != 1) {
            return OUTSIDE;
        }
        List<Integer> sets = new ArrayList<>();
        for (int set = 0; set < 64; set++) {
            sets.add(set);
        }
        sets.sort((a, b) -> Integer.bitCount(a) != Integer.bitCount(b)
            ? Integer.bitCount(a) - Integer.bitCount(b) : a - b);
        for (int set : sets) {
            World w = now.copy();
            boolean can = true;
            for (int i = 0; i < 6; i++) {
                if ((set & 1 << i) != 0) {
                    can &= now.there(i);
                    w.done(doing, i);
                }
            }
            boolean all = Integer.bitCount(set) == now.present().size();
            if (can && !(doing == 3 && all) && w.end()[1] == v) {
                return set;
            }
        }
        return NONE;
    }

    int toMove(int v, boolean row) {
        if (v != 0 && v != 1) {
            return OUTSIDE;
        }
        for (int times = 0; times <= 3; times++) {
            int best = NONE;
            for (int code = 0; code < Math.pow(6, times); code++) {
                int[] figures = new int[times];
                World w = now.copy();
                boolean can = true;
                int rest = code;
                for (int k = 0; k < times; k++) {
                    figures[k] = rest % 6 + 1;
                    can = can && w.done(1, rest % 6);
                    rest /= 6;
                }
                if (can && w.end()[1] == v) {
                    Arrays.sort(figures);
                    int number = 0;
                    for (int figure : figures) {
                        number = number * 10 + figure;
                    }
                    best = best == NONE ? number : Math.min(best, number);
                }
            }
            if (best != NONE) {
                return row ? best : times;
            }
        }
        return NONE;
    }

    int judge(int n, int row) {
        if (n < 1 || n > 4 || row < 0 || String.valueOf(row).length() > 2 * n) {
            return OUTSIDE;
        }
        String figures = "00000000" + row;
        figures = figures.substring(figures.length() - 2 * n);
        World w = now.copy();
        for (int place = 0; place < n; place++) {
            if (!w.done(figures.charAt(2 * place) - '0', figures.charAt(2 * place + 1) - '0')) {
                return place;
            }
        }
        return NONE;
    }

    // ---- seen

    int see(int i, int n, int v) {
        if (unknown(i)) {
            return UNKNOWN;
        }
        if (n < 0 || n > 9 || v < 0 || v > 1) {
            return OUTSIDE;
        }
        if (seen.size() == 6) {
            return FULL;
        }
        seen.add(new int[] {i, n, v});
        return seen.size();
    }

    int unsee() {
        int n = seen.size();
        seen.clear();
        return n;
    }

    int first(int what) {
        if (what < 0 || what > 2) {
            return OUTSIDE;
        }
        List<Integer> sets = new ArrayList<>();
        for (int set = 0; set < 64; set++) {
            World w = now.copy();
            if (setYes(w, set)) {
                boolean fits = true;
                for (int[] sight : seen) {
                    World later = w.copy();
                    for (int i = 0; i < sight[1]; i++) {
                        later.hour();
                    }
                    fits &= !later.there(sight[0]) || later.men.get(sight[0]).side == sight[2];
                }
                if (fits) {
                    sets.add(set);
                }
            }
        }
        if (what == 0) {
            return sets.size();
        }
        if (sets.isEmpty()) {
            return NONE;
        }
        int bits = 0;
        for (int i : now.present()) {
            int in = 0;
            for (int set : sets) {
                in += set >> i & 1;
            }
            if (in == (what == 1 ? sets.size() : 0)) {
                bits += 1 << i;
            }
        }
        return bits;
    }

    /** False, if some of the set are not there. */
    private static boolean setYes(World w, int set) {
        for (int i = 0; i < 6; i++) {
            boolean in = (set & 1 << i) != 0;
            if (in && !w.there(i)) {
                return false;
            }
            if (w.there(i)) {
                w.men.get(i).side = in ? 1 : 0;
            }
        }
        return true;
    }

    // ---- shares, rests, chances

    private static int told(BigInteger above, BigInteger below, boolean upper) {
        BigInteger g = above.gcd(below);
        return (upper ? above : below).divide(g).intValueExact();
    }

    private int gains, orders;

    int share(int i, boolean upper) {
        if (unknown(i)) {
            return UNKNOWN;
        }
        if (!now.there(i)) {
            return upper ? 0 : 1;
        }
        gains = 0;
        orders = 0;
        int[] ends = new int[64];
        for (int set = 0; set < 64; set++) {
            World w = now.copy();
            ends[set] = setYes(w, set) && w.end()[1] == 1 ? 1 : 0;
        }
        allOrders(now.present(), 0, i, ends);
        return told(BigInteger.valueOf(gains), BigInteger.valueOf(orders), upper);
    }

    private void allOrders(List<Integer> left, int yes, int i, int[] ends) {
        if (left.isEmpty()) {
            orders++;
            return;
        }
        for (int next : left) {
            List<Integer> others = new ArrayList<>(left);
            others.remove(Integer.valueOf(next));
            if (next == i) {
                int ways = 1;
                for (int k = 2; k <= others.size(); k++) {
                    ways *= k;
                }
                gains += ways * (ends[yes | 1 << next] - ends[yes]);
            }
            allOrders(others, yes | 1 << next, i, ends);
        }
    }

    int rests(int one, int other, int what) {
        if (unknown(one) || unknown(other)) {
            return UNKNOWN;
        }
        if (one == other || what < 0 || what > 1) {
            return OUTSIDE;
        }
        List<Integer> pairs = new ArrayList<>();
        for (int a = 0; a <= 4; a++) {
            for (int b = 0; b <= 4; b++) {
                boolean rest = true;
                for (int c = 0; c <= 4; c++) {
                    rest &= losses(one, other, c, b)[0] >= losses(one, other, a, b)[0];
                    rest &= losses(one, other, a, c)[1] >= losses(one, other, a, b)[1];
                }
                if (rest) {
                    pairs.add(10 * a + b);
                }
            }
        }
        if (what == 0) {
            return pairs.size();
        }
        return pairs.isEmpty() ? NONE : pairs.get(0);
    }

    private int[] losses(int one, int other, int a, int b) {
        boolean oneGivesIn = a != b ? a < b : one < other;
        int till = oneGivesIn ? a : b;
        int[] losses = new int[2];
        losses[0] = till * (now.men.get(one).kind == 1 ? 2 : 1);
        losses[1] = till * (now.men.get(other).kind == 1 ? 2 : 1);
        losses[oneGivesIn ? 0 : 1] += 3;
        return losses;
    }

    int coins(int v, int x, boolean upper) {
        if (v != 0 && v != 1 && v != 9 || x < 0 || x > 10) {
            return OUTSIDE;
        }
        BigInteger[] chance = {BigInteger.ZERO, BigInteger.ZERO};
        toss(now.copy(), now.present(), 0, BigInteger.ONE, v == 9 ? NONE : v, x, chance);
        return told(chance[0], chance[1], upper);
    }

    private static void toss(World w, List<Integer> those, int at, BigInteger weight, int v, int x,
            BigInteger[] chance) {
        if (at == those.size()) {
            chance[1] = chance[1].add(weight);
            if (w.end()[1] == v) {
                chance[0] = chance[0].add(weight);
            }
            return;
        }
        toss(w, those, at + 1, weight.multiply(BigInteger.valueOf(10 - x)), v, x, chance);
        World tossed = w.copy();
        tossed.done(4, those.get(at));
        toss(tossed, those, at + 1, weight.multiply(BigInteger.valueOf(x)), v, x, chance);
    }

    long seed(long v) {
        long was = seed;
        seed = v;
        return was;
    }

    int assizes(int m) {
        if (m < 1 || m > 20) {
            return OUTSIDE;
        }
        BigInteger modulus = BigInteger.ONE.shiftLeft(64);
        World w = now.copy();
        int verdicts = 0;
        for (int i = 0; i < m; i++) {
            BigInteger x = BigInteger.valueOf(seed).multiply(new BigInteger("6364136223846793005"))
                .add(new BigInteger("1442695040888963407")).mod(modulus);
            seed = x.longValue();
            int side = x.shiftRight(33).mod(BigInteger.valueOf(9)).intValue();
            if (side < 6) {
                w.done(4, side);
            } else {
                w.done(0, 0);
            }
            if (w.verdict() != 9) {
                verdicts++;
            }
        }
        return verdicts;
    }

    // ---- slots

    int keep(int slot) {
        if (slot < 0 || slot > 1) {
            return UNKNOWN;
        }
        kept[slot] = now.copy();
        return now.hour;
    }

    int again(int slot) {
        if (slot < 0 || slot > 1) {
            return UNKNOWN;
        }
        if (kept[slot] == null) {
            return STATE;
        }
        now = kept[slot].copy();
        acts.clear();
        return now.hour;
    }

    int count(int what) {
        int there = now.bitsOf(0) + now.bitsOf(1);
        int[] counts = {text.length(), now.men.size(), now.need, now.hour, there, now.bitsOf(1), now.verdict(),
            rowOfActs(), seen.size()};
        return what < 0 || what > 8 ? OUTSIDE : counts[what];
    }
}
