/** The sentences on what is SEEN that name a boundary, each with a test of its own; promises 20 to 22. */
final class BoundsOfSeenTest {
    /** Two are enough against the third one, which wakes in the ninth hour and not ahead of it. */
    private static final String LATE = "J6P190P190P093";

    private static void firsts(String at, HungryJury x, int sets, int inAll, int inNone) {
        Due.is(at + ": how many", x.first(0), sets);
        Due.is(at + ": who is in all", x.first(1), inAll);
        Due.is(at + ": who is in none", x.first(2), inNone);
    }

    private static void hours() {
        Due.sentence("Terms 3", "SEEN: that behind n HOURS (0 to 9)");
        HungryJury x = Due.jury(LATE);
        x.see(2, 0, 0);
        firsts("for NO now", x, 4, 0, 4);
        x.see(0, 8, 1);
        x.see(1, 8, 1);
        x.see(2, 8, 0);
        firsts("for NO behind 8 hours", x, 1, 3, 4);
        x.see(2, 9, 1);
        firsts("for YES behind 9", x, 1, 3, 4);
        x.see(0, 9, 1);
        Due.is("six are seen", x.count(8), 6);
        firsts("the sixth one holds too", x, 1, 3, 4);
        x.unsee();
        for (int n = 0; n < 6; n++) {
            x.see(0, 0, n == 5 ? 0 : 1);
        }
        firsts("the sixth one is looked at", x, 0, HungryJury.NONE, HungryJury.NONE);
        x.unsee();
        x.see(2, 9, 1);
        x.see(2, 8, 0);
        x.see(0, 0, 0);
        firsts("it wakes for the others alone", x, 0, HungryJury.NONE, HungryJury.NONE);
    }

    private static void whenAsked() {
        Due.sentence("Terms 3", "from how all is when it is asked (not when it was told) a JUROR is for v:");
        HungryJury x = Due.jury(LATE);
        Due.hours(x, 1);
        x.see(2, 8, 1);
        x.see(2, 7, 0);
        firsts("when told", x, 1, 3, 4);
        x.undo();
        firsts("an hour ahead", x, 0, HungryJury.NONE, HungryJury.NONE);
        Due.hours(x, 2);
        firsts("an hour behind", x, 0, HungryJury.NONE, HungryJury.NONE);
    }

    private static void sixAtMost() {
        Due.sentence("Terms 3", "6 such at most, none at first");
        HungryJury x = Due.jury(LATE);
        Due.is("none at first", x.count(8), 0);
        Due.is("nothing to forget", x.unsee(), 0);
        firsts("each set may be", x, 8, 0, 0);
        for (int n = 1; n <= 6; n++) {
            Due.is("see", x.see(1, 0, 1), n);
            Due.is("seen", x.count(8), n);
        }
        Due.is("the seventh", x.see(1, 0, 0), HungryJury.FULL);
        Due.is("seen still", x.count(8), 6);
        firsts("the seventh one is not looked at", x, 4, 2, 0);
    }

    private static void notLookedAt() {
        Due.sentence("Terms 3",
            "(of JURORS that there are not, or that are not there, nothing is looked at).");
        HungryJury x = Due.jury(LATE);
        x.see(2, 0, 0);
        x.see(2, 0, 1);
        firsts("both can not be", x, 0, HungryJury.NONE, HungryJury.NONE);
        x.die(2);
        firsts("of one that is not there", x, 4, 0, 0);
        Due.rewrite(x, "J1P190P190");
        x.jury();
        firsts("of one that there is not", x, 4, 0, 0);
        Due.rewrite(x, "J1");
        x.jury();
        firsts("of nobody", x, 1, 0, 0);
        Due.is("told still", x.count(8), 2);
        Due.rewrite(x, LATE);
        x.jury();
        firsts("there is one again", x, 0, HungryJury.NONE, HungryJury.NONE);
    }

    private static void see() {
        Due.sentence("Promise 20", "SEEN: how many there are. UNKNOWN; OUTSIDE: n, v (0, 1); FULL: 6.");
        HungryJury x = Due.jury("J1P190P190P190P190P190P190");
        Due.is("the first juror, least hours", x.see(0, 0, 0), 1);
        Due.is("the last juror, most hours", x.see(5, 9, 1), 2);
        x.die(5);
        Due.is("one that is not there", x.see(5, 9, 1), 3);
        Refused.beyond("see, juror", (y, i) -> y.see(i, 0, 0), 0, 5, HungryJury.UNKNOWN);
        Refused.beyond("see, n", Start::busy, (y, n) -> y.see(4, n, 0), 0, 9, HungryJury.OUTSIDE);
        Refused.beyond("see, v", Start::busy, (y, v) -> y.see(4, 9, v), 0, 1, HungryJury.OUTSIDE);
        for (int n = 0; n <= 9; n++) {
            Due.is("see in " + n, Start.busy().see(4, n, n & 1), 4);
        }
    }

    private static void seeInTheFull() {
        Due.sentence("Promise 20", "FULL: 6.");
        for (int i = 0; i < 6; i++) {
            int juror = i;
            Refused.is("see " + i, Start::full, x -> x.see(juror, 9 - juror, 1), HungryJury.FULL);
        }
        HungryJury x = Start.full();
        Due.is("full", x.see(0, 0, 0), HungryJury.FULL);
        x.unsee();
        Due.is("empty again", x.see(0, 0, 0), 1);
    }

    private static void unsee() {
        Due.sentence("Promise 21", "Nothing is SEEN: how much there was.");
        Due.is("of a new object", new HungryJury().unsee(), 0);
        for (int seen = 0; seen <= 6; seen++) {
            HungryJury x = Due.jury(LATE);
            for (int n = 0; n < seen; n++) {
                x.see(n % 3, n, 0);
            }
            Due.is("unsee", x.unsee(), seen);
            Due.is("seen", x.count(8), 0);
            firsts("each set may be", x, 8, 0, 0);
            Due.is("unsee again", x.unsee(), 0);
            Due.is("see", x.see(0, 0, 1), 1);
            firsts("nothing of old is seen", x, 4, 1, 0);
        }
    }

    private static void sets() {
        Due.sentence("Terms 3", "FIRST: sets (bits of those that are there) that may be for YES now, "
            + "all else as it is, so that all that is SEEN is so: how many;");
        StringBuilder text = new StringBuilder("J6");
        for (int jurors = 0; jurors <= 6; jurors++) {
            HungryJury x = Due.jury(text.toString());
            Due.is("all sets of " + jurors, x.first(0), 1 << jurors);
            for (int i = 0; i < jurors; i++) {
                x.see(i, 0, i & 1);
            }
            firsts("one set of " + jurors, x, 1, 42 & (1 << jurors) - 1, 21 & (1 << jurors) - 1);
            text.append("P190");
        }
        HungryJury x = Due.jury("J6P190P190P190P190P190P190");
        for (int i = 0; i < 6; i++) {
            x.die(i);
            Due.is("sets of those that are left", x.first(0), 1 << (5 - i));
        }
        // All else as it is: the third one has just the hunger that it needs for the next hour.
        x = Due.jury(LATE);
        x.see(2, 1, 1);
        x.see(2, 0, 0);
        Due.hours(x, 7);
        Due.is("one hour too early", x.first(0), 0);
        x.hour();
        Due.is("hunger as it is", x.first(0), 1);
    }

    private static void noSet() {
        Due.sentence("Terms 3",
            "who is in all; in none (of those that are there); NONE (of the latter two): there are none.");
        HungryJury x = Due.jury("J6P190P190P190P190");
        x.die(3);
        firsts("nothing seen", x, 8, 0, 0);
        x.see(0, 0, 1);
        firsts("in all", x, 4, 1, 0);
        x.see(1, 0, 0);
        firsts("in none, the dead one not told", x, 2, 1, 2);
        x.see(2, 0, 1);
        firsts("one set", x, 1, 5, 2);
        x.see(2, 0, 0);
        firsts("there are none", x, 0, HungryJury.NONE, HungryJury.NONE);
    }

    private static void first() {
        Due.sentence("Promise 22",
            "FIRST: how many sets (what = 0), who is in all (1), in none (2), as bits; NONE. OUTSIDE.");
        firsts("nobody", new HungryJury(), 1, 0, 0);
        Refused.never("first", HungryJury::first, HungryJury.OUTSIDE, 0, 1, 2);
        Refused.beyond("first", HungryJury::first, 0, 2, HungryJury.OUTSIDE);
    }

    public static void main(String[] args) {
        hours();
        whenAsked();
        sixAtMost();
        notLookedAt();
        see();
        seeInTheFull();
        unsee();
        sets();
        noSet();
        first();
        Due.finish();
    }
}
