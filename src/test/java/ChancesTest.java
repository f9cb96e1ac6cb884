/** Promises 23 to 27: share, rests, coins, seed, assizes. */
final class ChancesTest {
    private static void shareOf(HungryJury x, int juror, int above, int below) {
        Due.is("share " + juror + " above", x.share(juror, true), above);
        Due.is("share " + juror + " below", x.share(juror, false), below);
    }

    private static void share() {
        HungryJury x = Due.jury("J6P190P091P190P042P193P150H31H30");
        for (int left = 6; left >= 1; left--) {
            for (int i = 0; i < 6; i++) {
                // The greater side wins in the end, so that all who are there count alike.
                shareOf(x, i, i < left ? 1 : 0, i < left ? left : 1);
            }
            x.die(left - 1);
        }
        shareOf(x, 0, 0, 1);
        Due.is("no juror 6", x.share(6, true), HungryJury.UNKNOWN);
        Due.is("no juror 6 below", x.share(6, false), HungryJury.UNKNOWN);
        Due.is("no juror -1", x.share(-1, true), HungryJury.UNKNOWN);
        Due.is("nobody", new HungryJury().share(0, false), HungryJury.UNKNOWN);
    }

    private static void restsOf(HungryJury x, int one, int other, int pairs, int earliest) {
        Due.is("rests " + one + other, x.rests(one, other, 0), pairs);
        Due.is("rests " + one + other + " first", x.rests(one, other, 1), earliest);
    }

    private static void rests() {
        HungryJury x = Due.jury("J6P190P191P092P193P091");
        // Plain ones: one of them gives in at once, the other one would wait 3 or 4.
        restsOf(x, 0, 2, 4, 3);
        restsOf(x, 2, 0, 4, 3);
        restsOf(x, 3, 2, 4, 3);
        // A stout one lets the other one have it from 2 on.
        restsOf(x, 0, 1, 5, 3);
        restsOf(x, 1, 0, 5, 2);
        restsOf(x, 1, 2, 5, 2);
        restsOf(x, 2, 1, 5, 3);
        restsOf(x, 1, 4, 6, 2);
        restsOf(x, 4, 1, 6, 2);
        x.die(4);
        Due.hours(x, 5);
        restsOf(x, 4, 1, 6, 2);
        Due.is("one unknown", x.rests(5, 0, 0), HungryJury.UNKNOWN);
        Due.is("other unknown", x.rests(0, 5, 0), HungryJury.UNKNOWN);
        Due.is("one -1", x.rests(-1, 0, 0), HungryJury.UNKNOWN);
        Due.is("other -1", x.rests(0, -1, 0), HungryJury.UNKNOWN);
        Due.is("unknown goes ahead of outside", x.rests(5, 5, 2), HungryJury.UNKNOWN);
        Due.is("both are one", x.rests(1, 1, 0), HungryJury.OUTSIDE);
        Due.is("what -1", x.rests(0, 1, -1), HungryJury.OUTSIDE);
        Due.is("what 2", x.rests(0, 1, 2), HungryJury.OUTSIDE);
    }

    private static void coinsOf(HungryJury x, int v, int tenths, int above, int below) {
        Due.is("coins " + v + " " + tenths + " above", x.coins(v, tenths, true), above);
        Due.is("coins " + v + " " + tenths + " below", x.coins(v, tenths, false), below);
    }

    private static void coins() {
        HungryJury x = Due.jury("J6P190P090");
        // 9 if both toss or neither does: 49 + 9; YES if the second does alone.
        coinsOf(x, 9, 3, 29, 50);
        coinsOf(x, 1, 3, 21, 100);
        coinsOf(x, 0, 3, 21, 100);
        coinsOf(x, 9, 0, 1, 1);
        coinsOf(x, 1, 0, 0, 1);
        coinsOf(x, 9, 10, 1, 1);
        coinsOf(x, 9, 5, 1, 2);
        x.toss(1);
        coinsOf(x, 1, 0, 1, 1);
        coinsOf(x, 0, 10, 1, 1);
        coinsOf(x, 1, 1, 81, 100);
        coinsOf(x, 0, 1, 1, 100);
        x.die(0);
        coinsOf(x, 1, 1, 9, 10);
        x.die(1);
        coinsOf(x, 9, 4, 1, 1);
        coinsOf(x, 1, 4, 0, 1);
        x = Due.jury("J1P190P190P090P110P110P110");
        coinsOf(x, 1, 10, 0, 1);
        coinsOf(x, 0, 10, 1, 1);
        // Three and three: two of the five toss (10 x 81 x 81 x 9 in a million), or three of them and the sixth (10 x 81).
        coinsOf(x, 9, 1, 3321, 50000);
    }

    private static void seed() {
        HungryJury x = Due.jury("J6P190P090");
        Due.is("at first", x.seed(5), 0);
        Due.is("then", x.seed(Long.MIN_VALUE), 5);
        Due.is("least", x.seed(Long.MAX_VALUE), Long.MIN_VALUE);
        Due.is("most", x.seed(-1), Long.MAX_VALUE);
    }

    private static void assizes() {
        HungryJury x = Due.jury("J5P160P073P191P042P181P150H02H20H15H34");
        Due.is("m 0", x.assizes(0), HungryJury.OUTSIDE);
        Due.is("m -1", x.assizes(-1), HungryJury.OUTSIDE);
        Due.is("m 21", x.assizes(21), HungryJury.OUTSIDE);
        Due.is("refused: the seed stays", x.seed(2), 0);
        x.assizes(1);
        Due.is("once", x.seed(5), 2 * 6364136223846793005L + 1442695040888963407L);
        String before = Due.stateOf(x);
        x.assizes(20);
        Due.same("nothing changes", Due.stateOf(x), before);
        long behind = x.seed(5);
        Due.is("20 times from 5", behind, 6906002813012847257L);
        for (int i = 0; i < 20; i++) {
            x.assizes(1);
        }
        Due.is("20 times once", x.seed(0), behind);
        Due.is("a verdict that stays: each time", Due.jury("J1P190").assizes(20), 20);
        Due.is("nobody: never", new HungryJury().assizes(20), 0);
    }

    /** Whether there is a verdict behind each side, 0 to 8, of the one throw. */
    private static void assizesOfSides(String text, int... due) {
        HungryJury x = Due.jury(text);
        int seen = 0;
        for (int run = 0; run < 200; run++) {
            x.seed(run * 1000003L);
            int side = (int) (((run * 1000003L * 6364136223846793005L + 1442695040888963407L) >>> 33) % 9);
            seen |= 1 << side;
            Due.is("side " + side + " with " + text, x.assizes(1), due[side]);
        }
        Due.is("all sides were up", seen, 511);
    }

    /** Sides 0 to 5 toss whoever is there, 6 and more are hours. */
    private static void assizesOfTosses() {
        assizesOfSides("J6P190P090", 1, 1, 0, 0, 0, 0, 0, 0, 0);
        assizesOfSides("J6P190P190P020", 0, 0, 1, 0, 0, 0, 1, 1, 1);
        assizesOfSides("J6P190P190P190P190P190P090", 0, 0, 0, 0, 0, 1, 0, 0, 0);
        HungryJury x = Due.jury("J6P190P090");
        x.die(1);
        x.seed(0);
        Due.is("one alone: always", x.assizes(20), 20);
    }

    private static void nothingChanges() {
        HungryJury x = Due.jury("J6P190P091P190P042P193H31H30");
        Due.hours(x, 3);
        x.argue(1);
        x.see(1, 1, 1);
        String before = Due.stateOf(x);
        for (int v = -1; v <= 10; v++) {
            x.share(v, true);
            x.rests(v, 1, 1);
            x.coins(v, v, true);
            x.assizes(v);
        }
        Due.same("state", Due.stateOf(x), before);
        Due.is("undo", x.undo(), 3);
    }

    public static void main(String[] args) {
        share();
        rests();
        coins();
        seed();
        assizes();
        assizesOfTosses();
        nothingChanges();
        Due.finish();
    }
}
