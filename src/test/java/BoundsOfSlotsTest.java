import java.util.function.Supplier;

/** The sentences on SLOTS and counts that name a boundary, each with a test of its own; promises 28 to 30. */
final class BoundsOfSlotsTest {
    private static final String EVEN = "J6P190P091P192P093";

    private static void slotsKeep() {
        Due.sentence("Terms 3", "SLOTS 0 to 1 keep who is for what, how STUBBORN, HUNGER, who is there, THE HOUR");
        for (int slot = 0; slot <= 1; slot++) {
            HungryJury x = Due.jury(EVEN);
            Due.hours(x, 2);
            x.argue(1);
            x.toss(2);
            x.die(3);
            x.hour();
            String kept = Refused.roomOf(x);
            x.keep(slot);
            x.toss(0);
            x.toss(1);
            x.argue(0);
            x.argue(1);
            x.feed(0);
            x.die(2);
            Due.hours(x, 5);
            Due.that("it is other", !Refused.roomOf(x).equals(kept));
            x.again(slot);
            Due.same("as kept in " + slot, Refused.roomOf(x), kept);
            Due.is("who is for what", x.count(5), 1);
            Due.is("how stubborn", x.juror(1, 1), 8);
            Due.is("hunger", x.juror(0, 3), 3);
            Due.is("who is there", x.count(4), 7);
            Due.is("the hour", x.count(3), 1);
        }
    }

    private static void nothingElseIsKept() {
        Due.sentence("Terms 3", "who is there, THE HOUR (THE ROW of ACTS is empty when one goes on).");
        for (int slot = 0; slot <= 1; slot++) {
            HungryJury x = Due.jury(EVEN);
            x.keep(slot);
            x.seed(9);
            x.write('X');
            for (int n = 0; n < 6; n++) {
                x.see(0, 0, 1);
            }
            Due.is("again", x.again(slot), 0);
            Due.is("all that is SEEN stays", x.count(8), 6);
            Due.is("and is looked at", x.first(1), 1);
            Due.is("THE SEED stays", x.seed(0), 9);
            Due.is("THE TEXT stays", x.count(0), EVEN.length() + 1);
            Due.is("and its fault", x.fault(), EVEN.length());
        }
    }

    private static void deadOnesInSlots() {
        Due.sentence("Terms 3", "who is there, THE HOUR");
        HungryJury x = Due.jury(EVEN);
        x.keep(0);
        for (int i = 0; i < 4; i++) {
            x.die(i);
        }
        x.hour();
        x.keep(1);
        Due.is("all are there again", x.again(0), 0);
        Due.is("who", x.count(4), 15);
        Due.is("nobody is", x.again(1), 1);
        Due.is("who", x.count(4), 0);
        Due.is("no verdict", x.count(6), 9);
    }

    private static void rowIsEmpty() {
        Due.sentence("Terms 3", "(THE ROW of ACTS is empty when one goes on).");
        for (int acts = 0; acts <= 15; acts++) {
            HungryJury x = Due.jury(EVEN);
            Due.hours(x, acts);
            x.keep(0);
            Due.is("keeping leaves the row", x.count(7), Math.min(14, acts));
            x.again(0);
            Due.is("the row is empty", x.count(7), 0);
            Due.is("nothing to undo", x.undo(), HungryJury.STATE);
            Due.is("the hour", x.count(3), acts);
            x.hour();
            Due.is("the first act of the new row", x.undo(), 0);
            Due.is("no act of old is undone", x.undo(), HungryJury.STATE);
        }
    }

    private static void keep() {
        Due.sentence("Promise 28", "They are kept: THE HOUR. UNKNOWN.");
        for (int slot = 0; slot <= 1; slot++) {
            Due.is("keep of a new object", new HungryJury().keep(slot), 0);
            HungryJury x = Due.jury(EVEN);
            for (int n = 0; n < 25; n++) {
                Due.is("keep in hour " + n, x.keep(slot), n);
                x.hour();
                Due.is("the last one kept", x.again(slot), n);
                x.hour();
            }
            x.die(0);
            Due.is("keep behind a death", x.keep(slot), 0);
        }
        Refused.never("keep", HungryJury::keep, HungryJury.UNKNOWN, 0, 1);
        Refused.beyond("keep", HungryJury::keep, 0, 1, HungryJury.UNKNOWN);
    }

    private static void again() {
        Due.sentence("Promise 29", "They are as they were kept: THE HOUR. UNKNOWN; STATE: none were kept.");
        HungryJury x = Due.jury(EVEN);
        x.hour();
        x.keep(1);
        Due.hours(x, 3);
        x.keep(0);
        Due.hours(x, 3);
        for (int n = 0; n < 3; n++) {
            Due.is("again 1", x.again(1), 1);
            Due.is("hunger then", x.juror(1, 3), 2);
            x.hour();
            Due.is("again 0", x.again(0), 4);
            Due.is("hunger then", x.juror(1, 3), 8);
            x.toss(0);
        }
        Due.is("a new object, kept", keptAnew(0).again(0), 0);
        Due.is("a new object, kept", keptAnew(1).again(1), 0);
        Refused.never("again", HungryJury::again, HungryJury.UNKNOWN, 0, 1);
        Refused.beyond("again", HungryJury::again, 0, 1, HungryJury.UNKNOWN);
    }

    private static HungryJury keptAnew(int slot) {
        HungryJury x = new HungryJury();
        x.keep(slot);
        x.hour();
        return x;
    }

    private static void noneWereKept() {
        Due.sentence("Promise 29", "STATE: none were kept.");
        for (int slot = 0; slot <= 1; slot++) {
            int empty = slot;
            Refused.is("again of a new one", Start::anew, x -> x.again(empty), HungryJury.STATE);
            Refused.is("again of nobody", Start::nobody, x -> x.again(empty), HungryJury.STATE);
            Refused.is("again, the other one kept", () -> keptAnew(1 - empty), x -> x.again(empty),
                HungryJury.STATE);
            Refused.is("again behind a new jury", () -> {
                HungryJury x = Start.full();
                x.jury();
                x.hour();
                return x;
            }, x -> x.again(empty), HungryJury.STATE);
        }
        Refused.is("again of the empty one of two", Start::busy, x -> x.again(0), HungryJury.STATE);
    }

    // ---- counts

    private static void counted(String at, HungryJury x, int... due) {
        for (int what = 0; what < due.length; what++) {
            Due.is(at + ": count " + what, x.count(what), due[what]);
        }
    }

    private static void count() {
        Due.sentence("Promise 30", "0 letters of THE TEXT, 1 JURORS, 2 NEED, 3 THE HOUR, 4 who is there (bits), "
            + "5 who of these is for YES (bits), 6 the VERDICT, 7 ACTS in the row, 8 SEEN. OUTSIDE.");
        counted("a new object", new HungryJury(), 0, 0, 1, 0, 0, 0, 9, 0, 0);
        counted("nobody", Start.nobody(), 2, 0, 3, 1, 0, 0, 9, 1, 0);
        counted("some", Start.busy(), 13, 6, 6, 3, 31, 27, 9, 8, 3);
        counted("as much as may be", Start.full(), 56, 6, 6, 12, 63, 23, 9, 14, 6);
        HungryJury x = Due.jury("J1P190P190P190P190P190P190");
        counted("all are for YES", x, 26, 6, 1, 0, 63, 63, 1, 0, 0);
        for (int i = 0; i < 6; i++) {
            x.toss(i);
        }
        counted("all are for NO", x, 26, 6, 1, 0, 63, 0, 0, 6, 0);
        for (int i = 0; i < 6; i++) {
            x.die(i);
            x.hour();
        }
        counted("all are dead", x, 26, 6, 1, 1, 0, 0, 9, 14, 0);
        Refused.never("count", HungryJury::count, HungryJury.OUTSIDE, 0, 1, 2, 3, 4, 5, 6, 7, 8);
        Refused.beyond("count", HungryJury::count, 0, 8, HungryJury.OUTSIDE);
    }

    private static void deadAreNotFor() {
        Due.sentence("Promise 30", "5 who of these is for YES (bits)");
        HungryJury x = Due.jury("J1P190P190");
        x.die(0);
        Due.is("who of these", x.count(5), 2);
        Due.is("the dead one is for YES still", x.juror(0, 0), 1);
        for (Supplier<HungryJury> start : Start.all()) {
            HungryJury y = start.get();
            Due.is("none but these", y.count(5) & ~y.count(4), 0);
        }
    }

    public static void main(String[] args) {
        slotsKeep();
        nothingElseIsKept();
        deadOnesInSlots();
        rowIsEmpty();
        keep();
        again();
        noneWereKept();
        count();
        deadAreNotFor();
        Due.finish();
    }
}
