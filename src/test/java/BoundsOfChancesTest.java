import java.util.function.Supplier;

/** The sentences on shares, rests and chances that name a boundary, each with a test of its own; promises 23 to 27. */
final class BoundsOfChancesTest {
    private static final String EVEN = "J2P190P090";

    // ---- fractions

    private static void shareIs(String at, HungryJury x, int juror, int above, int below) {
        Due.is(at + ": above", x.share(juror, true), above);
        Due.is(at + ": below", x.share(juror, false), below);
    }

    private static void coinsAre(String at, HungryJury x, int v, int tenths, int above, int below) {
        Due.is(at + ": above", x.coins(v, tenths, true), above);
        Due.is(at + ": below", x.coins(v, tenths, false), below);
    }

    private static void fractions() {
        Due.sentence("Terms 0", "FRACTIONS are told above (upper = true; below 0, if they are), "
            + "below (1 and more), in least terms;");
        HungryJury x = Due.jury(EVEN);
        coinsAre("none of it", x, 1, 0, 0, 1);
        coinsAre("all of it", x, 9, 0, 1, 1);
        coinsAre("50 of 100", x, 9, 5, 1, 2);
        coinsAre("25 of 100", x, 1, 5, 1, 4);
        coinsAre("21 of 100", x, 1, 3, 21, 100);
        coinsAre("58 of 100", x, 9, 3, 29, 50);
        x = Due.jury("J6P190P190P190P190P190P190");
        // 3 of 6 toss: 20 x 729; 4, 5 or 6 of them: 15 x 81, 6 x 9 and 1, of a million.
        coinsAre("20 times 729 of a million", x, 9, 1, 20 * 729 / 20, 1000000 / 20);
        coinsAre("1270 of a million", x, 0, 1, 127, 100000);
        coinsAre("984150 of a million", x, 1, 1, 98415 / 5, 100000 / 5);
        for (int v : new int[] {0, 1, 9}) {
            for (int tenths = 0; tenths <= 10; tenths++) {
                int above = x.coins(v, tenths, true);
                int below = x.coins(v, tenths, false);
                Due.that(v + " " + tenths + " is from 0 to 1", above >= 0 && below >= 1 && above <= below);
            }
        }
    }

    private static void fractionsRefused() {
        Due.sentence("Terms 0", "refusals of them are told likewise.");
        Refused.beyond("share, above", (x, i) -> x.share(i, true), 0, 5, HungryJury.UNKNOWN);
        Refused.beyond("share, below", (x, i) -> x.share(i, false), 0, 5, HungryJury.UNKNOWN);
        Refused.beyond("coins, above", (x, tenths) -> x.coins(1, tenths, true), 0, 10, HungryJury.OUTSIDE);
        Refused.beyond("coins, below", (x, tenths) -> x.coins(1, tenths, false), 0, 10, HungryJury.OUTSIDE);
    }

    // ---- share

    private static void shares() {
        Due.sentence("Terms 3", "SHARE of a JUROR: if those that are there become YES one by one, "
            + "all NO at first, in each order as likely: by how much in the mean END being YES (1, else 0) "
            + "is more when it has become so than it was: a FRACTION;");
        StringBuilder text = new StringBuilder("J6");
        for (int jurors = 1; jurors <= 6; jurors++) {
            text.append("P0").append(10 - jurors).append(jurors % 4);
            for (int i = 0; i < jurors; i++) {
                // The greater side wins, whoever is in it.
                shareIs("juror " + i + " of " + text, Due.jury(text.toString()), i, 1, jurors);
            }
        }
    }

    private static void shareOfTheDead() {
        Due.sentence("Terms 3", "0, if it is not there.");
        HungryJury x = Due.jury("J6P190P190P190");
        x.die(1);
        shareIs("the dead one", x, 1, 0, 1);
        shareIs("one of two", x, 0, 1, 2);
        x.die(0);
        shareIs("alone", x, 2, 1, 1);
        x.die(2);
        for (int i = 0; i < 3; i++) {
            shareIs("all are dead", x, i, 0, 1);
        }
    }

    private static void share() {
        Due.sentence("Promise 23", "SHARE. UNKNOWN.");
        Due.is("nobody, above", new HungryJury().share(0, true), HungryJury.UNKNOWN);
        Due.is("nobody, below", new HungryJury().share(0, false), HungryJury.UNKNOWN);
        Refused.beyond("share", (x, i) -> x.share(i, true), 0, 5, HungryJury.UNKNOWN);
        Refused.is("share 1 of one", () -> Due.jury("J1P190"), x -> x.share(1, true), HungryJury.UNKNOWN);
    }

    // ---- rests

    private static void restsAre(String at, HungryJury x, int one, int other, int pairs, int earliest) {
        Due.is(at + ": how many", x.rests(one, other, 0), pairs);
        Due.is(at + ": the first", x.rests(one, other, 1), earliest);
    }

    private static void waits() {
        Due.sentence("Terms 3", "RESTS of two JURORS (there or not): each waits 0 to 4 HOURS;");
        // Who does not give in would wait 3 or 4 hours, the other one none: 03, 04, 30, 40.
        HungryJury x = Due.jury("J6P190P190P092P093P191P091");
        restsAre("PLAIN ones", x, 0, 1, 4, 3);
        restsAre("FIGS and ASLEEP are as PLAIN ones", x, 2, 3, 4, 3);
        // A STOUT one would wait 1 hour only, to lose 2 by it: against it 2 hours are enough.
        restsAre("STOUT, the greater number", x, 0, 4, 5, 3);
        restsAre("STOUT, the lesser number, told behind", x, 5, 4, 6, 2);
        restsAre("STOUT, the lesser number", x, 4, 5, 6, 2);
        restsAre("STOUT, told ahead", x, 4, 0, 5, 2);
        x.die(0);
        x.die(4);
        Due.hours(x, 9);
        restsAre("dead ones", x, 0, 4, 5, 3);
        restsAre("one dead", x, 0, 1, 4, 3);
    }

    private static void likeWaits() {
        Due.sentence("Terms 3", "who waits fewer gives in then (of like ones the lesser number):");
        // If nobody gave in of like ones, 0 and 0 would be at rest, and the first; if both did, 0 and 1 would be.
        HungryJury x = Due.jury("J6P190P191P190P191");
        restsAre("the plain one has the lesser number", x, 0, 1, 5, 3);
        restsAre("the stout one has it", x, 1, 2, 5, 2);
        restsAre("the stout one told ahead", x, 1, 0, 5, 2);
        restsAre("the plain one told ahead", x, 2, 1, 5, 3);
        restsAre("both are plain", x, 2, 0, 4, 3);
        restsAre("both are stout", x, 3, 1, 6, 2);
    }

    private static void losses() {
        Due.sentence("Terms 3", "it loses 3, and 1 for each of its HOURS; the other one loses 1 for each HOUR till then "
            + "(of STOUT ones, whichever of the two it is, 2 for each HOUR):");
        HungryJury x = Due.jury("J6P190P091P190P091");
        // 3 hours of waiting are as bad as giving in; so 0 and 2 are not at rest, but 0 and 3, and 0 and 4 are.
        restsAre("PLAIN ones", x, 0, 2, 4, 3);
        // For a STOUT one 1 hour is better, 2 are worse than giving in: the other one has but to wait 2.
        restsAre("STOUT ones", x, 1, 3, 6, 2);
        restsAre("the one is STOUT", x, 1, 0, 5, 2);
        restsAre("the other one is", x, 0, 1, 5, 3);
    }

    private static void restsNone() {
        Due.sentence("Terms 3", "pairs in which neither loses less by another wait alone: how many; "
            + "the first (10 times the one and the other); NONE.");
        HungryJury x = Due.jury("J6P190P191P092P193P091P190");
        for (int one = 0; one < 6; one++) {
            for (int other = 0; other < 6; other++) {
                if (one != other) {
                    int first = x.rests(one, other, 1);
                    Due.that("there is a pair of " + one + other, x.rests(one, other, 0) > 0);
                    Due.that("the first of " + one + other, first >= 0 && first <= 4);
                }
            }
        }
    }

    private static void rests() {
        Due.sentence("Promise 24", "RESTS: how many (what = 0), the first (1); NONE. "
            + "UNKNOWN: both; OUTSIDE: both are one, what.");
        Refused.beyond("rests, one", (x, i) -> x.rests(i, 0, 0), 0, 5, HungryJury.UNKNOWN);
        Refused.beyond("rests, other", (x, i) -> x.rests(0, i, 1), 0, 5, HungryJury.UNKNOWN);
        Refused.beyond("rests, both", (x, i) -> x.rests(i, i, 1), 0, 5, HungryJury.UNKNOWN);
        Refused.beyond("rests, one, and what is wrong too", (x, i) -> x.rests(i, 0, 2), 0, 5, HungryJury.UNKNOWN);
        Refused.beyond("rests, other, and what is wrong too", (x, i) -> x.rests(0, i, -1), 0, 5,
            HungryJury.UNKNOWN);
        for (Supplier<HungryJury> start : Start.ofSix()) {
            Refused.beyond("rests, what", start, (x, what) -> x.rests(0, 5, what), 0, 1, HungryJury.OUTSIDE);
            for (int i = 0; i < 6; i++) {
                int juror = i;
                Refused.is("rests, both are " + i, start, x -> x.rests(juror, juror, 0), HungryJury.OUTSIDE);
                Refused.is("rests, both are " + i, start, x -> x.rests(juror, juror, 1), HungryJury.OUTSIDE);
            }
        }
        Due.is("the last two of six", Start.full().rests(4, 5, 0), 4);
    }

    // ---- coins

    private static void tenths() {
        Due.sentence("Terms 3", "COINS: each one that is there tosses by x tenths (0 to 10), by itself, "
            + "and is for the other side then: that END is v (0, 1; 9: none in 20): a FRACTION.");
        HungryJury x = Due.jury("J6P190P190P090");
        coinsAre("nobody tosses: YES", x, 1, 0, 1, 1);
        coinsAre("nobody tosses: NO", x, 0, 0, 0, 1);
        coinsAre("nobody tosses: none", x, 9, 0, 0, 1);
        coinsAre("all toss: YES", x, 1, 10, 0, 1);
        coinsAre("all toss: NO", x, 0, 10, 1, 1);
        coinsAre("all toss: none", x, 9, 10, 0, 1);
        x = Due.jury("J6P190");
        for (int tenths = 0; tenths <= 10; tenths++) {
            int g = tenths == 0 || tenths == 10 ? 10 : tenths == 5 ? 5 : tenths % 2 == 0 ? 2 : 1;
            coinsAre("one alone, NO by " + tenths, x, 0, tenths, tenths / g, 10 / g);
            coinsAre("one alone, YES by " + tenths, x, 1, tenths, (10 - tenths) / g, 10 / g);
        }
        x = Due.jury(EVEN);
        x.die(0);
        coinsAre("the dead one does not toss", x, 1, 1, 1, 10);
        x.die(1);
        coinsAre("nobody is there: none", x, 9, 4, 1, 1);
        coinsAre("nobody is there: YES", x, 1, 4, 0, 1);
        coinsAre("a new object: none", new HungryJury(), 9, 10, 1, 1);
    }

    private static void coins() {
        Due.sentence("Promise 25", "COINS. OUTSIDE: v (0, 1, 9), x.");
        Refused.never("coins, v", (x, v) -> x.coins(v, 5, true), HungryJury.OUTSIDE, 0, 1, 9);
        Refused.never("coins, x", (x, tenths) -> x.coins(9, tenths, true), HungryJury.OUTSIDE, 0, 1, 2, 3, 4, 5, 6,
            7, 8, 9, 10);
        for (boolean upper : new boolean[] {false, true}) {
            Refused.beyond("coins, x", (x, tenths) -> x.coins(9, tenths, upper), 0, 10, HungryJury.OUTSIDE);
            Refused.beyond("coins, v and x", (x, v) -> x.coins(v, v + 2, upper), 0, 9, HungryJury.OUTSIDE);
            Refused.beyond("coins, v", (x, v) -> x.coins(v, 5, upper), 0, 9, HungryJury.OUTSIDE);
            for (int v = 2; v <= 8; v++) {
                int of = v;
                Refused.is("coins, v " + v, Start::busy, x -> x.coins(of, 5, upper), HungryJury.OUTSIDE);
            }
        }
    }

    // ---- the seed and assizes

    private static long nextOf(long x) {
        return x * 6364136223846793005L + 1442695040888963407L;
    }

    /** A seed whose next one tells the side, 0 to 8. */
    private static long seedOf(int side, int nth) {
        int found = 0;
        for (long x = Long.MIN_VALUE; found <= 1000; x++) {
            if ((nextOf(x) >>> 33) % 9 == side) {
                if (found == nth) {
                    return x;
                }
                found++;
            }
        }
        return 0;
    }

    private static void seedAtFirst() {
        Due.sentence("Terms 3", "x (THE SEED, a long; 0 at first) becomes x times 6364136223846793005 and "
            + "1442695040888963407 (64 bits, wrapping);");
        Due.is("at first", new HungryJury().seed(1), 0);
        HungryJury x = Due.jury(EVEN);
        x.assizes(1);
        Due.is("behind 0", x.seed(0), 1442695040888963407L);
        for (long seed : new long[] {-1, 1, Long.MAX_VALUE, Long.MIN_VALUE, 1L << 32, 0xffffffffL}) {
            x.seed(seed);
            x.assizes(1);
            Due.is("behind " + seed, x.seed(seed), nextOf(seed));
        }
        x.seed(0);
        x.assizes(20);
        long due = 0;
        for (int n = 0; n < 20; n++) {
            due = nextOf(due);
        }
        Due.is("20 times", x.seed(0), due);
    }

    private static void sideIs(String text, int side, int due) {
        for (int nth = 0; nth < 4; nth++) {
            HungryJury x = Due.jury(text);
            x.seed(seedOf(side, nth));
            Due.is("verdicts behind side " + side + " of " + text, x.assizes(1), due);
        }
    }

    private static void sides() {
        Due.sentence("Terms 3", "its upper 31 bits by 9, what is left: 0 to 5 that JUROR is TOSSED, "
            + "if it is there; 6 and more AN HOUR:");
        for (int side = 0; side <= 8; side++) {
            // One alone against five: a verdict, if it is tossed.
            for (int alone = 0; alone <= 5; alone++) {
                String text = "J6" + "P190".repeat(alone) + "P090" + "P190".repeat(5 - alone);
                sideIs(text, side, side == alone ? 1 : 0);
            }
            // A verdict by an hour alone; and of those told only if the last one tosses.
            sideIs("J6P190P190P010", side, side == 2 || side >= 6 ? 1 : 0);
            sideIs("J6P190", side, 1);
            sideIs("J6", side, 0);
        }
        for (int side = 0; side <= 8; side++) {
            HungryJury x = Due.jury("J6P190P190");
            x.toss(0);
            x.die(1);
            x.seed(seedOf(side, 0));
            Due.is("the dead one is not tossed, side " + side, x.assizes(1), 1);
        }
    }

    private static void allTimes() {
        Due.sentence("Terms 3", "ASSIZES by THE SEED: m times (1 to 20)");
        for (int m = 1; m <= 20; m++) {
            HungryJury x = Due.jury("J6P190");
            Due.is("each of " + m, x.assizes(m), m);
            long due = 0;
            for (int n = 0; n < m; n++) {
                due = nextOf(due);
            }
            Due.is("the seed behind " + m, x.seed(0), due);
        }
    }

    /** The same done by acts, each of them on what the one ahead of it has left. */
    private static int verdictsOfActs(HungryJury x, int m, long seed) {
        int verdicts = 0;
        long next = seed;
        for (int n = 0; n < m; n++) {
            next = nextOf(next);
            int side = (int) ((next >>> 33) % 9);
            if (side > 5) {
                x.hour();
            } else {
                x.toss(side);
            }
            verdicts += x.count(6) == 9 ? 0 : 1;
        }
        return verdicts;
    }

    private static void verdictsOfAllTimes() {
        Due.sentence("Terms 3", "how often there is a VERDICT then (behind each of the m times), all times together. "
            + "(Nothing changes but THE SEED.)");
        Due.is("always", Due.jury("J1P190").assizes(20), 20);
        Due.is("never", new HungryJury().assizes(20), 0);
        for (int m = 1; m <= 20; m++) {
            for (long seed = -3; seed <= 3; seed++) {
                HungryJury x = Due.jury("J4P140P031P122P043P150P060H01H10");
                x.die(5);
                x.seed(seed);
                Due.is(m + " times from " + seed, x.assizes(m), verdictsOfActs(x, m, seed));
            }
        }
        for (Supplier<HungryJury> start : Start.all()) {
            HungryJury x = start.get();
            HungryJury y = start.get();
            long seed = 0;
            seed = y.seed(seed);
            for (int n = 0; n < 20; n++) {
                seed = nextOf(seed);
            }
            y.seed(seed);
            x.assizes(20);
            Due.same("all but THE SEED", Refused.wholeOf(x), Refused.wholeOf(y));
        }
    }

    private static void seed() {
        Due.sentence("Promise 26", "THE SEED is v: what it was.");
        HungryJury x = new HungryJury();
        long before = 0;
        for (long v : new long[] {1, -1, Long.MAX_VALUE, Long.MIN_VALUE, -9, -1L << 32, 0}) {
            Due.is("seed", x.seed(v), before);
            before = v;
        }
        x.seed(5);
        Due.is("refused", x.assizes(21), HungryJury.OUTSIDE);
        x.hour();
        x.undo();
        x.keep(0);
        x.seed(6);
        x.again(0);
        Due.is("nothing else is THE SEED", x.seed(0), 6);
    }

    private static void assizes() {
        Due.sentence("Promise 27", "ASSIZES. OUTSIDE: m.");
        for (int m = 1; m <= 20; m++) {
            Refused.never("assizes", HungryJury::assizes, HungryJury.OUTSIDE, m);
        }
        Refused.beyond("assizes", HungryJury::assizes, 1, 20, HungryJury.OUTSIDE);
        Refused.is("assizes of no time", Start::busy, x -> x.assizes(0), HungryJury.OUTSIDE);
    }

    public static void main(String[] args) {
        fractions();
        fractionsRefused();
        shares();
        shareOfTheDead();
        share();
        waits();
        likeWaits();
        losses();
        restsNone();
        rests();
        tenths();
        coins();
        seedAtFirst();
        sides();
        allTimes();
        verdictsOfAllTimes();
        seed();
        assizes();
        Due.finish();
    }
}
