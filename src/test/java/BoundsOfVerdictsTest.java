import java.util.function.Supplier;

/** The sentences on what is asked of verdicts that name a boundary, each with a test of its own; promises 13 to 19. */
final class BoundsOfVerdictsTest {
    /** The fourth gives in in hour 3, the fifth in hour 6, and that is the end. */
    private static final String SLOW = "J6P190P190P190P040P090";

    /** Nothing can be slower: the last one has 1 HUNGER more in each second hour, and gives in by 8. */
    private static final String SLOWEST = "J6P190P190P092";

    /** As many for both, so that nobody ever gives in. */
    private static final String EVEN = "J2P190P092P190P090";

    /** The call changes nothing, in any state. */
    private static void changesNothing(String what, Refused.Call call) {
        for (Supplier<HungryJury> start : Start.all()) {
            HungryJury x = start.get();
            call.on(x);
            Due.same("all that there is behind " + what, Refused.wholeOf(x), Refused.wholeOf(start.get()));
        }
    }

    private static void nothingIsChanged() {
        Due.sentence("Terms 2", "In what follows nothing is changed.");
        changesNothing("ahead", x -> x.ahead(9));
        changesNothing("end", x -> x.end(0));
        changesNothing("end, which", x -> x.end(1));
        changesNothing("gives", x -> x.gives(1));
        changesNothing("judge", x -> x.judge(4, 30402110));
        changesNothing("first", x -> x.first(1));
        changesNothing("rests", x -> x.rests(0, 1, 1));
        for (int v = 0; v <= 1; v++) {
            int of = v;
            changesNothing("toFeed", x -> x.toFeed(of));
            changesNothing("strike", x -> x.strike(of));
            changesNothing("toMove", x -> x.toMove(of, true));
            changesNothing("share", x -> x.share(3, of == 0));
            changesNothing("coins", x -> x.coins(of, 3, true));
        }
        changesNothing("count", x -> x.count(6));
        changesNothing("juror", x -> x.juror(0, 3));
    }

    // ---- hours ahead

    private static void inHours() {
        Due.sentence("Terms 2", "IN n HOURS (0 to 9): who is for YES (bits of those that are there), "
            + "if nothing else is done.");
        int[] due = {7, 7, 7, 15, 15, 15, 31, 31, 31, 31};
        HungryJury x = Due.jury(SLOW);
        for (int n = 0; n <= 9; n++) {
            Due.is("in " + n, Due.jury(SLOW).ahead(n), due[n]);
            Due.is("in none, behind " + n, x.ahead(0), due[n]);
            x.hour();
        }
        Due.is("in 9 hours, not in 8", Due.jury("J6P190P190P093").ahead(8), 3);
        Due.is("in 9 hours", Due.jury("J6P190P190P093").ahead(9), 7);
        Due.is("in 10 hours only", Due.jury("J6P190P190P062").ahead(9), 3);
        x = Due.jury("J6P190P190P190P010");
        x.die(0);
        Due.is("the dead one, for YES, is no bit", x.ahead(0), 6);
        Due.is("the dead one in an hour", x.ahead(1), 14);
        x.die(1);
        x.die(2);
        x.die(3);
        Due.is("nobody is there", x.ahead(9), 0);
    }

    private static void ahead() {
        Due.sentence("Promise 13", "IN n HOURS, as bits. OUTSIDE: n.");
        Due.is("six of six, now", Due.jury("J1P190P190P190P190P190P190").ahead(0), 63);
        Due.is("six of six, in 9", Due.jury("J1P190P190P190P190P190P190").ahead(9), 63);
        Due.is("nobody", new HungryJury().ahead(9), 0);
        Refused.never("ahead", HungryJury::ahead, HungryJury.OUTSIDE, 0, 1, 2, 3, 4, 5, 6, 7, 8, 9);
        Refused.beyond("ahead", HungryJury::ahead, 0, 9, HungryJury.OUTSIDE);
    }

    private static void endsIn(String text, int hours, int which) {
        HungryJury x = Due.jury(text);
        Due.is("end of " + text, x.end(0), hours);
        Due.is("which of " + text, x.end(1), which);
    }

    private static void ends() {
        Due.sentence("Terms 2", "END: in how many HOURS (0 to 20) there is a VERDICT first, "
            + "if nothing else is done; which; NONE: none in 20.");
        endsIn("J2P190P190P010", 0, 1);
        endsIn("J2P090P090P110", 0, 0);
        endsIn("J6P190P190P010", 1, 1);
        endsIn("J6P090P090P110", 1, 0);
        endsIn(SLOW, 6, 1);
        endsIn(SLOWEST, 16, 1);
        endsIn("J6P090P090P192", 16, 0);
        endsIn("J5P190P190P190P010P092", 12, 1);
        endsIn("J4P190P190P190P010P092", 1, 1);
        endsIn(EVEN, HungryJury.NONE, HungryJury.NONE);
        endsIn("J6P110P010", HungryJury.NONE, HungryJury.NONE);
        endsIn("J1", HungryJury.NONE, HungryJury.NONE);
        HungryJury x = Due.jury(SLOWEST);
        for (int n = 16; n >= 0; n--) {
            Due.is("end", x.end(0), n);
            Due.is("which", x.end(1), 1);
            x.hour();
        }
        Due.is("the verdict stays", x.end(0), 0);
        x = Due.jury(EVEN);
        Due.hours(x, 40);
        Due.is("none behind 40 hours", x.end(0), HungryJury.NONE);
        x.die(0);
        Due.is("behind a death one YES of three: at once", x.end(0), 0);
        Due.is("which", x.end(1), 0);
    }

    private static void end() {
        Due.sentence("Promise 14", "END: in how many HOURS (what = 0), which (1); NONE. OUTSIDE.");
        Due.is("nobody", new HungryJury().end(0), HungryJury.NONE);
        Due.is("nobody, which", new HungryJury().end(1), HungryJury.NONE);
        Refused.never("end", HungryJury::end, HungryJury.OUTSIDE, 0, 1);
        Refused.beyond("end", HungryJury::end, 0, 1, HungryJury.OUTSIDE);
    }

    private static void firstGivesIn() {
        Due.sentence("Terms 2", "GIVES of a JUROR: in how many HOURS (1 to 20) it GIVES IN first; NONE.");
        Due.is("in the first hour", Due.jury("J6P190P190P010").gives(2), 1);
        Due.is("in the slowest", Due.jury(SLOWEST).gives(2), 16);
        HungryJury x = Due.jury(SLOWEST);
        for (int n = 16; n >= 1; n--) {
            Due.is("gives", x.gives(2), n);
            x.hour();
        }
        Due.is("it has given in", x.gives(2), HungryJury.NONE);
        Due.is("who need not", x.gives(0), HungryJury.NONE);
        Due.is("as many on both sides", Due.jury("J6P110P010").gives(1), HungryJury.NONE);
        Due.is("a verdict ahead of it", Due.jury("J2P190P190P010").gives(2), HungryJury.NONE);
        // The fourth makes the verdict in the third hour; the fifth would have given in in the sixth one.
        x = Due.jury("J4P190P190P190P040P090");
        Due.is("who makes the verdict", x.gives(3), 3);
        Due.is("who is spared by it", x.gives(4), HungryJury.NONE);
    }

    private static void gives() {
        Due.sentence("Promise 15", "GIVES; NONE. UNKNOWN; STATE: it is not there.");
        Refused.is("gives of a dead one", Start::busy, x -> x.gives(5), HungryJury.STATE);
        Refused.is("gives of the only one, dead", () -> {
            HungryJury x = Due.jury("J1P190");
            x.die(0);
            return x;
        }, x -> x.gives(0), HungryJury.STATE);
        Refused.beyond("gives", HungryJury::gives, 0, 5, HungryJury.UNKNOWN);
    }

    // ---- feed, strike, move

    private static void feeding() {
        Due.sentence("Terms 2", "FEED for a VERDICT v (0, 1): the fewest JURORS that are there "
            + "(bits; of like ones the least) that, FED now, let END be v;");
        // The greater side wins in the end, whoever is fed: nobody, or none.
        HungryJury x = Due.jury(SLOW);
        for (int n = 0; n < 8; n++) {
            Due.is("nobody need be fed", x.toFeed(1), 0);
            Due.is("no feeding helps", x.toFeed(0), HungryJury.NONE);
            x.hour();
        }
        x = Due.jury("J6P090P090P190");
        Due.is("for NO", x.toFeed(0), 0);
        Due.is("for YES", x.toFeed(1), HungryJury.NONE);
        x = Due.jury(EVEN);
        x.hour();
        Due.is("as many on both sides, for NO", x.toFeed(0), HungryJury.NONE);
        Due.is("as many on both sides, for YES", x.toFeed(1), HungryJury.NONE);
        Due.is("nobody is there", new HungryJury().toFeed(1), HungryJury.NONE);
        Due.is("the slowest", Due.jury(SLOWEST).toFeed(1), 0);
    }

    private static void striking() {
        Due.sentence("Terms 2", "STRIKE for v: the fewest that, DEAD now, do so (not all);");
        // The greater side must be less than the other one: three of four YES, and no more.
        HungryJury x = Due.jury("J6P190P190P190P190P090P090");
        Due.is("nobody", x.strike(1), 0);
        Due.is("the least three", x.strike(0), 7);
        x.toss(0);
        Due.is("one of either side is enough: for NO", x.strike(0), 2);
        Due.is("one of either side is enough: for YES", x.strike(1), 1);
        x.die(1);
        Due.is("none any more for NO", x.strike(0), 0);
        Due.is("two for YES, the least", x.strike(1), 1 + 16);
        Due.is("five of six", Due.jury("J6P090P090P090P190P090P090").strike(1), 63 - 8);
        Due.is("not all: two", Due.jury("J6P190P190").strike(0), HungryJury.NONE);
        Due.is("not all: one", Due.jury("J6P190").strike(0), HungryJury.NONE);
        Due.is("not all: none is there", new HungryJury().strike(0), HungryJury.NONE);
        x = Due.jury("J6P190P090");
        Due.is("one of two, for YES", x.strike(1), 2);
        Due.is("one of two, for NO", x.strike(0), 1);
        x.die(0);
        Due.is("who is left", x.strike(0), 0);
        Due.is("not who is left", x.strike(1), HungryJury.NONE);
    }

    private static void moving() {
        Due.sentence("Terms 2", "MOVE for v: the fewest times (0 to 3) to ARGUE now with JURORS that are there, "
            + "so that END is v: how many; the first such row (told by JURORS, the least first, as figures, "
            + "1 more each, one behind the other; of like many the least as a number; 0: none); NONE.");
        for (String text : new String[] {SLOW, SLOWEST, "J1P190", "J6P110P110P090P090P190"}) {
            HungryJury x = Due.jury(text);
            Due.is("how many for YES of " + text, x.toMove(1, false), 0);
            Due.is("the row for YES of " + text, x.toMove(1, true), 0);
            Due.is("how many for NO of " + text, x.toMove(0, false), HungryJury.NONE);
            Due.is("the row for NO of " + text, x.toMove(0, true), HungryJury.NONE);
        }
        HungryJury x = Due.jury("J6P090P120P090");
        Due.is("how many for NO", x.toMove(0, false), 0);
        Due.is("the row for NO", x.toMove(0, true), 0);
        x = Due.jury(EVEN);
        for (int v = 0; v <= 1; v++) {
            Due.is("as many on both sides, for " + v, x.toMove(v, false), HungryJury.NONE);
            Due.is("the row, for " + v, x.toMove(v, true), HungryJury.NONE);
            Due.is("nobody is there, for " + v, new HungryJury().toMove(v, false), HungryJury.NONE);
        }
    }

    private static void toFeed() {
        Due.sentence("Promise 16", "FEED, as bits; NONE. OUTSIDE: v (0, 1).");
        Refused.never("toFeed", HungryJury::toFeed, HungryJury.OUTSIDE, 0, 1);
        Refused.beyond("toFeed", HungryJury::toFeed, 0, 1, HungryJury.OUTSIDE);
    }

    private static void strike() {
        Due.sentence("Promise 17", "STRIKE, as bits; NONE. OUTSIDE: v (0, 1).");
        Refused.never("strike", HungryJury::strike, HungryJury.OUTSIDE, 0, 1);
        Refused.beyond("strike", HungryJury::strike, 0, 1, HungryJury.OUTSIDE);
    }

    private static void toMove() {
        Due.sentence("Promise 18", "MOVE: how many (row = false), the row (row = true); NONE. OUTSIDE: v (0, 1).");
        Refused.never("toMove, how many", (x, v) -> x.toMove(v, false), HungryJury.OUTSIDE, 0, 1);
        Refused.never("toMove, the row", (x, v) -> x.toMove(v, true), HungryJury.OUTSIDE, 0, 1);
        Refused.beyond("toMove, how many", (x, v) -> x.toMove(v, false), 0, 1, HungryJury.OUTSIDE);
        Refused.beyond("toMove, the row", (x, v) -> x.toMove(v, true), 0, 1, HungryJury.OUTSIDE);
    }

    // ---- judge

    /** The doing of two figures: whether it can be, as the first and only one and behind three hours. */
    private static void canBe(String text, int figures, boolean due) {
        HungryJury x = Due.jury(text);
        Due.is("doing " + figures + " of " + text, x.judge(1, figures), due ? HungryJury.NONE : 0);
        Due.is("doing " + figures + " of " + text + ", told fourth", x.judge(4, figures),
            due || figures / 10 == 2 ? HungryJury.NONE : 3);
    }

    private static void doings() {
        Due.sentence("Terms 2", "JUDGED: n doings (1 to 4), told as two figures each (the first one's are the "
            + "highest of row) (0 and 0: AN HOUR; 1 and a JUROR: ARGUED; 2: FED; 3: DEAD; 4: TOSSED):");
        String text = "J6P120P020P190P090P190P090";
        canBe(text, 0, true);
        for (int juror = 1; juror <= 9; juror++) {
            canBe(text, juror, false);
        }
        for (int juror = 0; juror <= 5; juror++) {
            canBe(text, 10 + juror, true);
            canBe(text, 20 + juror, false);
            canBe(text, 30 + juror, true);
            canBe(text, 40 + juror, true);
        }
        for (int doing = 1; doing <= 4; doing++) {
            for (int juror = 6; juror <= 9; juror++) {
                Due.is("a juror that is not", Due.jury(text).judge(1, 10 * doing + juror), 0);
                Due.is("a juror that is not, told fourth", Due.jury(text).judge(4, 10 * doing + juror), 3);
            }
        }
        for (int figures = 50; figures <= 99; figures++) {
            canBe(text, figures, false);
        }
    }

    private static void firstThatCanNotBe() {
        Due.sentence("Terms 2", "the place (from 0 on) of the first that can not be; NONE: none.");
        HungryJury x = Due.jury("J6P120P020P190P090P190P090");
        int[] hundreds = {1, 100, 10000, 1000000};
        for (int n = 1; n <= 4; n++) {
            Due.is(n + " hours", x.judge(n, 0), HungryJury.NONE);
            for (int place = 0; place < n; place++) {
                int row = 99 * hundreds[n - 1 - place];
                Due.is("99 at place " + place + " of " + n, x.judge(n, row), place);
                Due.is("and at all behind it", x.judge(n, 100 * hundreds[n - 1 - place] - 1), place);
            }
        }
        Due.is("argued to 1, and no more", x.judge(2, 1010), 1);
        Due.is("fed, and hungry no more", x.judge(3, 2020), 2);
        Due.is("dead twice", x.judge(2, 3535), 1);
        Due.is("a dead one argued", x.judge(2, 3515), 1);
        Due.is("a dead one tossed", x.judge(2, 3545), 1);
        Due.is("a dead one, hungry, fed", x.judge(3, 3525), 2);
        Due.is("tossed four times", x.judge(4, 40404040), HungryJury.NONE);
        Due.is("four dead", x.judge(4, 30313233), HungryJury.NONE);
        Due.is("what is told is not done", x.judge(4, 30313233), HungryJury.NONE);
        x.die(5);
        Due.is("dead already", x.judge(1, 35), 0);
        Due.is("a dead one tossed", x.judge(1, 45), 0);
        Due.is("an hour of nobody", new HungryJury().judge(4, 0), HungryJury.NONE);
        Due.is("nobody to argue with", new HungryJury().judge(1, 10), 0);
        Due.is("with a verdict an hour makes nobody hungry", Due.jury("J1P190").judge(2, 20), 1);
    }

    private static void judge() {
        Due.sentence("Promise 19", "JUDGED; NONE. OUTSIDE: n, row (0 or more, 2 n figures at most).");
        Refused.beyond("judge, n", (x, n) -> x.judge(n, 0), 1, 4, HungryJury.OUTSIDE);
        Refused.beyond("judge, n, and a greater row", (x, n) -> x.judge(n, 99), 1, 4, HungryJury.OUTSIDE);
        Refused.never("judge, n", (x, n) -> x.judge(n, 0), HungryJury.OUTSIDE, 1, 2, 3, 4);
        int[] greatest = {0, 99, 9999, 999999, 99999999};
        for (int n = 1; n <= 4; n++) {
            int doings = n;
            Refused.never("judge " + n + ", row", (x, row) -> x.judge(doings, row), HungryJury.OUTSIDE, 0, 1,
                greatest[n] - 1, greatest[n]);
            Refused.beyond("judge " + n + ", row", (x, row) -> x.judge(doings, row), 0, greatest[n],
                HungryJury.OUTSIDE);
            Due.is("the greatest row of " + n, new HungryJury().judge(n, greatest[n]), 0);
        }
    }

    public static void main(String[] args) {
        nothingIsChanged();
        inHours();
        ahead();
        ends();
        end();
        firstGivesIn();
        gives();
        feeding();
        striking();
        moving();
        toFeed();
        strike();
        toMove();
        doings();
        firstThatCanNotBe();
        judge();
        Due.finish();
    }
}
