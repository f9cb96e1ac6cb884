/** Promises 20 to 22: see, unsee, first. */
final class SeenTest {
    private static void firsts(String at, HungryJury x, int sets, int inAll, int inNone) {
        Due.is(at + ": first 0", x.first(0), sets);
        Due.is(at + ": first 1", x.first(1), inAll);
        Due.is(at + ": first 2", x.first(2), inNone);
    }

    private static void see() {
        HungryJury x = Due.jury("J6P110P010P010");
        Due.is("see", x.see(0, 0, 0), 1);
        Due.is("see the same", x.see(0, 0, 0), 2);
        Due.is("see 9 hours", x.see(2, 9, 1), 3);
        Due.is("no juror 3", x.see(3, 0, 0), HungryJury.UNKNOWN);
        Due.is("no juror -1", x.see(-1, 0, 0), HungryJury.UNKNOWN);
        Due.is("unknown goes ahead of outside", x.see(3, 10, 0), HungryJury.UNKNOWN);
        Due.is("n -1", x.see(0, -1, 0), HungryJury.OUTSIDE);
        Due.is("n 10", x.see(0, 10, 0), HungryJury.OUTSIDE);
        Due.is("v -1", x.see(0, 0, -1), HungryJury.OUTSIDE);
        Due.is("v 2", x.see(0, 0, 2), HungryJury.OUTSIDE);
        Due.is("v 9", x.see(0, 0, 9), HungryJury.OUTSIDE);
        Due.is("there are", x.count(8), 3);
        x.see(1, 0, 0);
        x.see(1, 0, 0);
        Due.is("the sixth", x.see(1, 0, 0), 6);
        Due.is("full", x.see(1, 0, 0), HungryJury.FULL);
        Due.is("outside goes ahead of full", x.see(1, 0, 2), HungryJury.OUTSIDE);
        Due.is("unknown goes ahead of full", x.see(4, 0, 0), HungryJury.UNKNOWN);
        Due.is("six", x.count(8), 6);
        x.die(0);
        x.unsee();
        Due.is("a dead one may be seen", x.see(0, 0, 1), 1);
    }

    private static void unsee() {
        HungryJury x = Due.jury("J6P110P010P010");
        Due.is("nothing", x.unsee(), 0);
        x.see(0, 0, 0);
        x.see(0, 0, 1);
        Due.is("no set", x.first(0), 0);
        Due.is("two", x.unsee(), 2);
        Due.is("none left", x.count(8), 0);
        Due.is("all sets", x.first(0), 8);
    }

    private static void first() {
        // Each one gives in to the greater side in the first hour.
        HungryJury x = Due.jury("J6P110P010P010");
        firsts("nothing seen", x, 8, 0, 0);
        x.see(0, 1, 1);
        firsts("more are yes", x, 4, 0, 0);
        x.see(0, 0, 0);
        firsts("but 0 is not", x, 1, 6, 1);
        x.see(1, 0, 0);
        firsts("nor is 1", x, 0, HungryJury.NONE, HungryJury.NONE);
        Due.is("first -1", x.first(-1), HungryJury.OUTSIDE);
        Due.is("first 3", x.first(3), HungryJury.OUTSIDE);
        firsts("nobody", new HungryJury(), 1, 0, 0);
    }

    private static void fromHowAllIs() {
        // The third one is seen to be still against two of the others in 7 hours, not in 8.
        HungryJury x = Due.jury("J6P190P190P090");
        x.see(2, 7, 0);
        x.see(0, 7, 1);
        firsts("ahead of the hours", x, 2, 1, 4);
        x.hour();
        firsts("behind an hour", x, 0, HungryJury.NONE, HungryJury.NONE);
        x.undo();
        firsts("undone", x, 2, 1, 4);
        x.toss(0);
        firsts("who is for what now is not asked", x, 2, 1, 4);
    }

    private static void seenInNineHours() {
        HungryJury x = Due.jury("J6P190P190P093");
        x.see(2, 9, 1);
        firsts("yes in nine hours", x, 4, 0, 0);
        x.see(2, 8, 0);
        firsts("but not in eight", x, 1, 3, 4);
    }

    private static void deadAreNotLookedAt() {
        HungryJury x = Due.jury("J6P190P190P090");
        x.see(2, 0, 1);
        x.see(2, 0, 0);
        Due.is("no set", x.first(0), 0);
        x.die(2);
        firsts("all of two", x, 4, 0, 0);
        x.see(1, 3, 1);
        firsts("half of them", x, 2, 2, 0);
        x.see(0, 0, 0);
        firsts("one of them", x, 1, 2, 1);
        Due.rewrite(x, "J6P190");
        x.jury();
        firsts("the others are no more", x, 1, 0, 1);
        Due.is("but told still", x.count(8), 4);
        Due.rewrite(x, "J6P190P190P090");
        x.jury();
        firsts("they are again", x, 0, HungryJury.NONE, HungryJury.NONE);
    }

    private static void nothingChanges() {
        HungryJury x = Due.jury("J6P190P091P190P042P193H31H30");
        Due.hours(x, 3);
        String before = Due.stateOf(x);
        x.see(3, 4, 1);
        x.first(0);
        x.first(1);
        x.first(2);
        x.first(3);
        x.unsee();
        Due.same("state", Due.stateOf(x), before);
    }

    public static void main(String[] args) {
        see();
        unsee();
        first();
        fromHowAllIs();
        seenInNineHours();
        deadAreNotLookedAt();
        nothingChanges();
        Due.finish();
    }
}
