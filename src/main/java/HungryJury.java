/**
 * Jurors who are shut up without food till they agree.
 *
 * A jury is written letter by letter; then its hours pass, and it can be asked what will come of them.
 * Every row that a call needs is made with the object, so that no call makes an object.
 */
public final class HungryJury {
    public static final int UNKNOWN = -1, OUTSIDE = -2, STATE = -3, FULL = -4, NONE = -9;

    private static final int MOST_LETTERS = 56;
    private static final int MOST_JURORS = 6;
    private static final int MOST_NEED = 6;
    private static final int MOST_ACTS = 14;
    private static final int MOST_SEEN = 6;
    private static final int SLOTS = 2;
    private static final int SETS = 1 << MOST_JURORS;

    private static final int NO = 0, YES = 1, NO_VERDICT = 9;
    private static final int STOUT = 1, FIGS = 2, ASLEEP = 3, LAST_KIND = 3;
    private static final int MOST_STUBBORN = 9;
    private static final int MOST_HUNGER = 20;

    private static final int HOURS = 0, ARGUED = 1, FED = 2, DEAD = 3, TOSSED = 4;

    private static final int MOST_HOURS_AHEAD = 9;
    private static final int MOST_HOURS_TO_END = 20;
    private static final int LAST_MOVE = 666;
    private static final int MOST_DOINGS = 4;
    private static final int LONGEST_WAIT = 4;
    private static final int LOSS_OF_GIVING_IN = 3;
    private static final int TENTHS = 10;
    private static final int MOST_ASSIZES = 20;
    private static final int ASSIZE_SIDES = 9;

    private static final int[] HUNDREDS = {1, 100, 10000, 1000000, 100000000};
    private static final int[] FACTORIALS = {1, 1, 2, 6, 24, 120, 720};

    private final Text text = new Text();
    private final Panel panel = new Panel();
    private final Panel draft = new Panel();
    private final Room now = new Room(panel);
    private final Room trial = new Room(panel);
    private final Acts acts = new Acts(panel);
    private final Room[] slots = new Room[SLOTS];
    private final boolean[] isKept = new boolean[SLOTS];
    private final Sights sights = new Sights();
    private long theSeed;

    public HungryJury() {
        for (int i = 0; i < SLOTS; i++) {
            slots[i] = new Room(panel);
        }
    }

    // ---- the jury

    public int write(int letter) {
        if (letter < 0 || letter > 255) {
            return OUTSIDE;
        }
        return text.add(letter) ? text.length : FULL;
    }

    public int wipe() {
        int length = text.length;
        text.length = 0;
        return length;
    }

    public int fault() {
        return draft.readFrom(text);
    }

    public int jury() {
        // Read into the draft first: a refused text must leave the jury as it is.
        if (draft.readFrom(text) != NONE) {
            return STATE;
        }
        panel.readFrom(text);
        now.beginAnew();
        acts.forgetAll();
        for (int i = 0; i < SLOTS; i++) {
            isKept[i] = false;
        }
        return panel.jurors;
    }

    public int juror(int juror, int what) {
        if (!isJuror(juror)) {
            return UNKNOWN;
        }
        switch (what) {
            case 0:
                return now.isYes(juror) ? YES : NO;
            case 1:
                return now.stubborn[juror];
            case 2:
                return panel.kind[juror];
            case 3:
                return now.hunger[juror];
            case 4:
                return panel.heeded[juror];
            case 5:
                return now.isThere(juror) ? 1 : 0;
            default:
                return OUTSIDE;
        }
    }

    // ---- acts

    public int hour() {
        acts.remember(now);
        return Integer.bitCount(now.passHour());
    }

    public int argue(int juror) {
        int refusal = doAct(ARGUED, juror);
        if (refusal != NONE || !isJuror(juror)) {
            return refusal;
        }
        return now.stubborn[juror];
    }

    public int feed(int juror) {
        int had = isJuror(juror) ? now.hunger[juror] : 0;
        int refusal = doAct(FED, juror);
        return refusal != NONE ? refusal : had;
    }

    public int die(int juror) {
        int refusal = doAct(DEAD, juror);
        return refusal != NONE ? refusal : Integer.bitCount(now.there);
    }

    public int toss(int juror) {
        int refusal = doAct(TOSSED, juror);
        if (refusal != NONE) {
            return refusal;
        }
        return now.isYes(juror) ? YES : NO;
    }

    public int undo() {
        return acts.takeBack(now) ? acts.size : STATE;
    }

    // ---- verdicts

    public int ahead(int n) {
        if (n < 0 || n > MOST_HOURS_AHEAD) {
            return OUTSIDE;
        }
        trial.copyFrom(now);
        for (int i = 0; i < n; i++) {
            trial.passHour();
        }
        return trial.yesThere();
    }

    public int end(int what) {
        if (what < 0 || what > 1) {
            return OUTSIDE;
        }
        trial.copyFrom(now);
        int hours = trial.passHoursToEnd();
        return hours == NONE || what == 0 ? hours : trial.verdict();
    }

    public int gives(int juror) {
        if (!isJuror(juror)) {
            return UNKNOWN;
        }
        if (!now.isThere(juror)) {
            return STATE;
        }
        trial.copyFrom(now);
        for (int n = 1; n <= MOST_HOURS_TO_END; n++) {
            if ((trial.passHour() >> juror & 1) == 1) {
                return n;
            }
        }
        return NONE;
    }

    public int toFeed(int v) {
        return isSide(v) ? fewestFor(FED, v) : OUTSIDE;
    }

    public int strike(int v) {
        return isSide(v) ? fewestFor(DEAD, v) : OUTSIDE;
    }

    public int toMove(int v, boolean row) {
        if (!isSide(v)) {
            return OUTSIDE;
        }
        int move = leastMoveFor(v);
        return move == NONE || row ? move : figuresOf(move);
    }

    public int judge(int n, int row) {
        if (n < 1 || n > MOST_DOINGS || row < 0 || row >= HUNDREDS[n]) {
            return OUTSIDE;
        }
        trial.copyFrom(now);
        for (int place = 0; place < n; place++) {
            int figures = row / HUNDREDS[n - 1 - place] % 100;
            int doing = figures / 10;
            int juror = figures % 10;
            if (!trial.canDo(doing, juror)) {
                return place;
            }
            trial.carryOut(doing, juror);
        }
        return NONE;
    }

    // ---- seen

    public int see(int juror, int n, int v) {
        if (!isJuror(juror)) {
            return UNKNOWN;
        }
        if (n < 0 || n > MOST_HOURS_AHEAD || !isSide(v)) {
            return OUTSIDE;
        }
        return sights.add(juror, n, v) ? sights.size : FULL;
    }

    public int unsee() {
        int size = sights.size;
        sights.size = 0;
        return size;
    }

    public int first(int what) {
        if (what < 0 || what > 2) {
            return OUTSIDE;
        }
        int sets = 0;
        int inAll = now.there;
        int inAny = 0;
        for (int set = 0; set < SETS; set++) {
            if ((set & ~now.there) == 0 && fitsWhatIsSeen(set)) {
                sets++;
                inAll &= set;
                inAny |= set;
            }
        }
        if (what == 0) {
            return sets;
        }
        if (sets == 0) {
            return NONE;
        }
        return what == 1 ? inAll : now.there & ~inAny;
    }

    // ---- shares, rests, chances

    public int share(int juror, boolean upper) {
        if (!isJuror(juror)) {
            return UNKNOWN;
        }
        if (!now.isThere(juror)) {
            return partOfFraction(0, 1, upper);
        }
        int others = now.there & ~(1 << juror);
        int sum = 0;
        for (int set = 0; set < SETS; set++) {
            if ((set & ~others) == 0) {
                int gain = endIsYesFrom(set | 1 << juror) - endIsYesFrom(set);
                sum += gain * ordersWith(Integer.bitCount(set), Integer.bitCount(others & ~set));
            }
        }
        return partOfFraction(sum, factorial(Integer.bitCount(now.there)), upper);
    }

    public int rests(int one, int other, int what) {
        if (!isJuror(one) || !isJuror(other)) {
            return UNKNOWN;
        }
        if (one == other || what < 0 || what > 1) {
            return OUTSIDE;
        }
        int pairs = 0;
        int earliest = NONE;
        for (int wait = 0; wait <= LONGEST_WAIT; wait++) {
            for (int otherWait = 0; otherWait <= LONGEST_WAIT; otherWait++) {
                if (isBestWait(one, other, wait, otherWait) && isBestWait(other, one, otherWait, wait)) {
                    pairs++;
                    earliest = earliest == NONE ? 10 * wait + otherWait : earliest;
                }
            }
        }
        return what == 0 ? pairs : earliest;
    }

    public int coins(int v, int x, boolean upper) {
        if (!isSide(v) && v != NO_VERDICT || x < 0 || x > TENTHS) {
            return OUTSIDE;
        }
        int sum = 0;
        for (int set = 0; set < SETS; set++) {
            if ((set & ~now.there) == 0) {
                int chance = power(x, Integer.bitCount(set))
                    * power(TENTHS - x, Integer.bitCount(now.there & ~set));
                if (chance > 0 && endAfter(TOSSED, set) == v) {
                    sum += chance;
                }
            }
        }
        return partOfFraction(sum, power(TENTHS, Integer.bitCount(now.there)), upper);
    }

    public long seed(long v) {
        long before = theSeed;
        theSeed = v;
        return before;
    }

    public int assizes(int m) {
        if (m < 1 || m > MOST_ASSIZES) {
            return OUTSIDE;
        }
        trial.copyFrom(now);
        int verdicts = 0;
        for (int i = 0; i < m; i++) {
            theSeed = theSeed * 6364136223846793005L + 1442695040888963407L;
            int side = (int) ((theSeed >>> 33) % ASSIZE_SIDES);
            if (side >= MOST_JURORS) {
                trial.passHour();
            } else if (trial.isThere(side)) {
                trial.carryOut(TOSSED, side);
            }
            verdicts += trial.verdict() == NO_VERDICT ? 0 : 1;
        }
        return verdicts;
    }

    // ---- slots

    public int keep(int slot) {
        if (slot < 0 || slot >= SLOTS) {
            return UNKNOWN;
        }
        slots[slot].copyFrom(now);
        isKept[slot] = true;
        return now.theHour;
    }

    public int again(int slot) {
        if (slot < 0 || slot >= SLOTS) {
            return UNKNOWN;
        }
        if (!isKept[slot]) {
            return STATE;
        }
        now.copyFrom(slots[slot]);
        acts.forgetAll();
        return now.theHour;
    }

    public int count(int what) {
        switch (what) {
            case 0:
                return text.length;
            case 1:
                return panel.jurors;
            case 2:
                return panel.need;
            case 3:
                return now.theHour;
            case 4:
                return now.there;
            case 5:
                return now.yesThere();
            case 6:
                return now.verdict();
            case 7:
                return acts.size;
            case 8:
                return sights.size;
            default:
                return OUTSIDE;
        }
    }

    // ---- what the calls share

    private boolean isJuror(int juror) {
        return juror >= 0 && juror < panel.jurors && juror < MOST_JURORS;
    }

    private static boolean isSide(int v) {
        return v == NO || v == YES;
    }

    /** Does what one juror undergoes; the refusal, or NONE. */
    private int doAct(int doing, int juror) {
        if (!isJuror(juror)) {
            return UNKNOWN;
        }
        if (!now.canDo(doing, juror)) {
            return STATE;
        }
        acts.remember(now);
        now.carryOut(doing, juror);
        return NONE;
    }

    /** The verdict of the end, if each of the set undergoes the doing now. */
    private int endAfter(int doing, int set) {
        trial.copyFrom(now);
        for (int i = 0; i < MOST_JURORS; i++) {
            if ((set >> i & 1) == 1) {
                trial.carryOut(doing, i);
            }
        }
        trial.passHoursToEnd();
        return trial.verdict();
    }

    /** The fewest jurors, of like many the least set, whose undergoing the doing lets the end be v. */
    private int fewestFor(int doing, int v) {
        int best = NONE;
        int bestSize = MOST_JURORS + 1;
        for (int set = 0; set < SETS; set++) {
            int size = Integer.bitCount(set);
            boolean allowed = (set & ~now.there) == 0 && (doing != DEAD || set != now.there);
            if (allowed && size < bestSize && endAfter(doing, set) == v) {
                best = set;
                bestSize = size;
            }
        }
        return best;
    }

    /** The first row of arguments that lets the end be v; no figure is 0, so a shorter row is a lesser number. */
    private int leastMoveFor(int v) {
        for (int move = 0; move <= LAST_MOVE; move++) {
            if (isMove(move) && endAfterMove(move) == v) {
                return move;
            }
        }
        return NONE;
    }

    private boolean isMove(int move) {
        int behind = MOST_JURORS;
        for (int rest = move; rest > 0; rest /= 10) {
            int figure = rest % 10;
            if (figure > behind || !now.isThere(figure - 1)) {
                return false;
            }
            behind = figure;
        }
        return true;
    }

    private int endAfterMove(int move) {
        trial.copyFrom(now);
        for (int rest = move; rest > 0; rest /= 10) {
            trial.carryOut(ARGUED, rest % 10 - 1);
        }
        trial.passHoursToEnd();
        return trial.verdict();
    }

    private static int figuresOf(int number) {
        int figures = 0;
        for (int rest = number; rest > 0; rest /= 10) {
            figures++;
        }
        return figures;
    }

    private boolean fitsWhatIsSeen(int set) {
        trial.copyFrom(now);
        trial.yes = set;
        for (int n = 0; n <= MOST_HOURS_AHEAD; n++) {
            if (!sights.fit(trial, n)) {
                return false;
            }
            trial.passHour();
        }
        return true;
    }

    /** 1, if the end is YES when just those of the set are for it now, else 0. */
    private int endIsYesFrom(int set) {
        trial.copyFrom(now);
        trial.yes = set;
        trial.passHoursToEnd();
        return trial.verdict() == YES ? 1 : 0;
    }

    /** In how many orders so many come ahead of one, and so many behind it, if it is told who. */
    private static int ordersWith(int ahead, int behind) {
        return factorial(ahead) * factorial(behind);
    }

    private static int factorial(int n) {
        return n < 0 || n >= FACTORIALS.length ? 1 : FACTORIALS[n];
    }

    private static int power(int base, int exponent) {
        int product = 1;
        for (int i = 0; i < exponent; i++) {
            product *= base;
        }
        return product;
    }

    private static int partOfFraction(int above, int below, boolean upper) {
        int divisor = commonDivisor(Math.abs(above), below);
        if (divisor < 1) {
            return OUTSIDE;
        }
        return (upper ? above : below) / divisor;
    }

    private static int commonDivisor(int one, int other) {
        int greater = one;
        int lesser = other;
        // What is left is less than what it was divided by, so that 64 steps are more than two ints can need.
        for (int step = 0; step < 64 && lesser > 0; step++) {
            int rest = greater % lesser;
            greater = lesser;
            lesser = rest;
        }
        return greater;
    }

    private boolean isBestWait(int juror, int other, int wait, int otherWait) {
        int loss = lossOf(juror, other, wait, otherWait);
        for (int otherwise = 0; otherwise <= LONGEST_WAIT; otherwise++) {
            if (lossOf(juror, other, otherwise, otherWait) < loss) {
                return false;
            }
        }
        return true;
    }

    private int lossOf(int juror, int other, int wait, int otherWait) {
        boolean givesIn = wait < otherWait || wait == otherWait && juror < other;
        int perHour = isJuror(juror) && panel.kind[juror] == STOUT ? 2 : 1;
        return Math.min(wait, otherWait) * perHour + (givesIn ? LOSS_OF_GIVING_IN : 0);
    }

    /** THE TEXT. */
    private static final class Text {
        final int[] letters = new int[MOST_LETTERS];
        int length;

        boolean add(int letter) {
            if (length < 0 || length >= MOST_LETTERS) {
                return false;
            }
            letters[length] = letter;
            length++;
            return true;
        }

        /** The letter at a place, or -1, which fits nowhere, where there is none. */
        int letterAt(int place) {
            return place < 0 || place >= length || place >= MOST_LETTERS ? -1 : letters[place];
        }

        boolean isFigure(int place, int least, int most) {
            int letter = letterAt(place);
            return letter >= '0' + least && letter <= '0' + most;
        }

        int figureAt(int place) {
            return letterAt(place) - '0';
        }
    }

    /** A JURY as its text tells it. */
    private static final class Panel {
        final int[] stubborn = new int[MOST_JURORS];
        final int[] kind = new int[MOST_JURORS];
        final int[] heeded = new int[MOST_JURORS];
        int jurors;
        int need = 1;
        int yes;

        /** Reads a text; the place of its fault, or NONE. */
        int readFrom(Text text) {
            jurors = 0;
            yes = 0;
            need = 1;
            if (text.letterAt(0) != 'J') {
                return 0;
            }
            if (!text.isFigure(1, 1, MOST_NEED)) {
                return 1;
            }
            need = text.figureAt(1);
            int place = 2;
            while (place < text.length) {
                boolean isPart = text.letterAt(place) == 'P';
                int fault = isPart ? readJuror(text, place) : readPair(text, place);
                if (fault != NONE) {
                    return fault;
                }
                place += isPart ? 4 : 3;
            }
            return NONE;
        }

        private int readJuror(Text text, int place) {
            if (jurors < 0 || jurors >= MOST_JURORS) {
                return place;
            }
            if (!text.isFigure(place + 1, NO, YES)) {
                return place + 1;
            }
            if (!text.isFigure(place + 2, 1, MOST_STUBBORN)) {
                return place + 2;
            }
            if (!text.isFigure(place + 3, 0, LAST_KIND)) {
                return place + 3;
            }
            yes |= text.figureAt(place + 1) << jurors;
            stubborn[jurors] = text.figureAt(place + 2);
            kind[jurors] = text.figureAt(place + 3);
            heeded[jurors] = 0;
            jurors++;
            return NONE;
        }

        private int readPair(Text text, int place) {
            if (text.letterAt(place) != 'H' || !hasPairLeft()) {
                return place;
            }
            int one = text.figureAt(place + 1);
            if (pairsLeft(one) == 0) {
                return place + 1;
            }
            int other = text.figureAt(place + 2);
            if (other < 0 || other >= MOST_JURORS || (pairsLeft(one) >> other & 1) == 0) {
                return place + 2;
            }
            if (one >= 0 && one < MOST_JURORS) {
                heeded[one] |= 1 << other;
            }
            return NONE;
        }

        private boolean hasPairLeft() {
            for (int i = 0; i < jurors; i++) {
                if (pairsLeft(i) != 0) {
                    return true;
                }
            }
            return false;
        }

        /** Whom a juror can still be told to heed, as bits; none, if there is no such juror. */
        private int pairsLeft(int juror) {
            if (juror < 0 || juror >= jurors || juror >= MOST_JURORS) {
                return 0;
            }
            return (1 << jurors) - 1 & ~(1 << juror) & ~heeded[juror];
        }
    }

    /** How all is with a jury: who is for what, how stubborn, how hungry, who is there, and the hour. */
    private static final class Room {
        final Panel panel;
        final int[] stubborn = new int[MOST_JURORS];
        final int[] hunger = new int[MOST_JURORS];
        int yes;
        int there;
        int theHour;

        Room(Panel panel) {
            this.panel = panel;
        }

        void beginAnew() {
            yes = panel.yes;
            there = (1 << panel.jurors) - 1;
            theHour = 0;
            for (int i = 0; i < MOST_JURORS; i++) {
                stubborn[i] = panel.stubborn[i];
                hunger[i] = 0;
            }
        }

        void copyFrom(Room other) {
            yes = other.yes;
            there = other.there;
            theHour = other.theHour;
            for (int i = 0; i < MOST_JURORS; i++) {
                stubborn[i] = other.stubborn[i];
                hunger[i] = other.hunger[i];
            }
        }

        boolean isThere(int juror) {
            return juror >= 0 && juror < MOST_JURORS && (there >> juror & 1) == 1;
        }

        boolean isYes(int juror) {
            return juror >= 0 && juror < MOST_JURORS && (yes >> juror & 1) == 1;
        }

        int yesThere() {
            return yes & there;
        }

        int verdict() {
            int forYes = Integer.bitCount(there & yes);
            int forNo = Integer.bitCount(there & ~yes);
            if (carries(forYes, forNo)) {
                return YES;
            }
            return carries(forNo, forYes) ? NO : NO_VERDICT;
        }

        private boolean carries(int those, int others) {
            return those > others && (others == 0 || those >= panel.need);
        }

        /** AN HOUR: who gives in, as bits. */
        int passHour() {
            boolean isOver = verdict() != NO_VERDICT;
            theHour++;
            if (isOver) {
                return 0;
            }
            growHungry();
            int gaveIn = 0;
            for (int i = 0; i < MOST_JURORS; i++) {
                if (isThere(i) && mustGiveIn(i)) {
                    yes ^= 1 << i;
                    gaveIn |= 1 << i;
                }
            }
            return gaveIn;
        }

        private void growHungry() {
            for (int i = 0; i < MOST_JURORS; i++) {
                if (isThere(i)) {
                    hunger[i] = Math.min(MOST_HUNGER, hunger[i] + hungerOfHour(panel.kind[i]));
                }
            }
        }

        private int hungerOfHour(int kind) {
            if (kind == FIGS) {
                return (theHour & 1) == 0 ? 1 : 0;
            }
            return kind == STOUT ? 2 : 1;
        }

        private boolean mustGiveIn(int juror) {
            if (juror < 0 || juror >= MOST_JURORS) {
                return false;
            }
            int against = isYes(juror) ? there & ~yes : there & yes;
            int more = Integer.bitCount(against) - Integer.bitCount(there & ~against);
            if (more <= 0) {
                return false;
            }
            int pressure = hunger[juror];
            if (panel.kind[juror] != ASLEEP) {
                pressure += more + 2 * Integer.bitCount(panel.heeded[juror] & against);
            }
            return pressure >= stubborn[juror];
        }

        /** Lets hours pass until there is a verdict: how many, or NONE. */
        int passHoursToEnd() {
            for (int n = 0; n < MOST_HOURS_TO_END; n++) {
                if (verdict() != NO_VERDICT) {
                    return n;
                }
                passHour();
            }
            return verdict() != NO_VERDICT ? MOST_HOURS_TO_END : NONE;
        }

        boolean canDo(int doing, int juror) {
            if (doing == HOURS) {
                return juror == 0;
            }
            if (juror < 0 || juror >= MOST_JURORS || !isThere(juror)) {
                return false;
            }
            switch (doing) {
                case ARGUED:
                    return stubborn[juror] > 1;
                case FED:
                    return hunger[juror] > 0;
                default:
                    return doing == DEAD || doing == TOSSED;
            }
        }

        void carryOut(int doing, int juror) {
            if (juror < 0 || juror >= MOST_JURORS) {
                return;
            }
            switch (doing) {
                case HOURS:
                    passHour();
                    break;
                case ARGUED:
                    stubborn[juror] = Math.max(1, stubborn[juror] - 1);
                    break;
                case FED:
                    hunger[juror] = 0;
                    break;
                case DEAD:
                    there &= ~(1 << juror);
                    theHour = 0;
                    break;
                case TOSSED:
                    yes ^= 1 << juror;
                    break;
                default:
                    break;
            }
        }
    }

    /** THE ROW of ACTS: how all was ahead of each of the last ones. */
    private static final class Acts {
        final Room[] before = new Room[MOST_ACTS];
        int size;

        Acts(Panel panel) {
            for (int i = 0; i < MOST_ACTS; i++) {
                before[i] = new Room(panel);
            }
        }

        void remember(Room room) {
            if (size >= MOST_ACTS) {
                forgetOldest();
            }
            if (size >= 0 && size < MOST_ACTS) {
                before[size].copyFrom(room);
                size++;
            }
        }

        private void forgetOldest() {
            Room oldest = before[0];
            for (int i = 1; i < MOST_ACTS; i++) {
                before[i - 1] = before[i];
            }
            before[MOST_ACTS - 1] = oldest;
            size = MOST_ACTS - 1;
        }

        void forgetAll() {
            size = 0;
        }

        /** Makes the room as it was ahead of the last act; false, if there is none. */
        boolean takeBack(Room room) {
            if (size < 1 || size > MOST_ACTS) {
                return false;
            }
            size--;
            room.copyFrom(before[size]);
            return true;
        }
    }

    /** All that is SEEN. */
    private static final class Sights {
        final int[] who = new int[MOST_SEEN];
        final int[] hours = new int[MOST_SEEN];
        final int[] side = new int[MOST_SEEN];
        int size;

        boolean add(int juror, int n, int v) {
            if (size < 0 || size >= MOST_SEEN) {
                return false;
            }
            who[size] = juror;
            hours[size] = n;
            side[size] = v;
            size++;
            return true;
        }

        /** Whether a room behind n hours is as it is seen; those who are not there are not looked at. */
        boolean fit(Room room, int n) {
            for (int i = 0; i < size && i < MOST_SEEN; i++) {
                boolean isLookedAt = hours[i] == n && room.isThere(who[i]);
                if (isLookedAt && room.isYes(who[i]) != (side[i] == YES)) {
                    return false;
                }
            }
            return true;
        }
    }
}
