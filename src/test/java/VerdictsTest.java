/** Promises 13 to 19: ahead, end, gives, toFeed, strike, toMove, judge; and the VERDICT itself. */
final class VerdictsTest {
    // The fourth gives in in hour 3 (hunger 3, 1 more), the fifth in hour 6 (hunger 6, 3 more).
    private static final String SLOW = "J6P190P190P190P040P090";

    private static void verdict(String text, int due) {
        Due.is("verdict of " + text, Due.jury(text).count(6), due);
    }

    private static void verdicts() {
        verdict("J1", 9);
        verdict("J6P190", 1);
        verdict("J6P090", 0);
        verdict("J6P190P190", 1);
        verdict("J1P190P090", 9);
        verdict("J2P190P190P090", 1);
        verdict("J3P190P190P090", 9);
        verdict("J1P190P090P090", 0);
        verdict("J2P190P190P090P090", 9);
        verdict("J4P090P090P090P090P190P190", 0);
        verdict("J5P090P090P090P090P190P190", 9);
    }

    private static void ahead() {
        HungryJury x = Due.jury(SLOW);
        int[] due = {7, 7, 7, 15, 15, 15, 31, 31, 31, 31};
        for (int n = 0; n <= 9; n++) {
            Due.is("ahead " + n, x.ahead(n), due[n]);
        }
        Due.is("ahead -1", x.ahead(-1), HungryJury.OUTSIDE);
        Due.is("ahead 10", x.ahead(10), HungryJury.OUTSIDE);
        x.die(0);
        Due.is("the dead one is not told", x.ahead(0), 6);
        x.undo();
        Due.hours(x, 2);
        Due.is("ahead 1 behind two hours", x.ahead(1), 15);
        Due.is("nobody", new HungryJury().ahead(9), 0);
    }

    private static void end() {
        HungryJury x = Due.jury(SLOW);
        Due.is("end", x.end(0), 6);
        Due.is("which", x.end(1), 1);
        Due.is("end -1", x.end(-1), HungryJury.OUTSIDE);
        Due.is("end 2", x.end(2), HungryJury.OUTSIDE);
        Due.hours(x, 4);
        Due.is("end behind 4", x.end(0), 2);
        Due.hours(x, 2);
        Due.is("end at the end", x.end(0), 0);
        Due.is("which at the end", x.end(1), 1);
        x = Due.jury("J4P090P090P090P140P190");
        Due.is("need is enough", x.end(0), 3);
        Due.is("it is no", x.end(1), 0);
        x = Due.jury("J6P110P010");
        Due.is("a tie", x.end(0), HungryJury.NONE);
        Due.is("a tie is none", x.end(1), HungryJury.NONE);
        x = Due.jury("J6P190P190P092");
        Due.is("figs last long", x.end(0), 16);
        x.hour();
        Due.is("an hour less", x.end(0), 15);
        Due.is("a seventeenth hour", Due.jury("J6P190P190P093").end(0), 9);
    }

    private static void gives() {
        HungryJury x = Due.jury(SLOW);
        Due.is("gives 3", x.gives(3), 3);
        Due.is("gives 4", x.gives(4), 6);
        Due.is("gives 0", x.gives(0), HungryJury.NONE);
        Due.is("gives 5", x.gives(5), HungryJury.UNKNOWN);
        Due.is("gives -1", x.gives(-1), HungryJury.UNKNOWN);
        x.hour();
        Due.is("gives 3 behind an hour", x.gives(3), 2);
        x.die(4);
        Due.is("gives of the dead", x.gives(4), HungryJury.STATE);
        Due.is("with two more", x.gives(3), 1);
        x = Due.jury("J2P190P190P010");
        Due.is("a verdict spares it", x.gives(2), HungryJury.NONE);
        Due.is("figs", Due.jury("J6P190P190P092").gives(2), 16);
    }

    private static void toFeed() {
        HungryJury x = Due.jury(SLOW);
        Due.hours(x, 2);
        Due.is("nobody need be fed", x.toFeed(1), 0);
        Due.is("no feeding helps", x.toFeed(0), HungryJury.NONE);
        Due.is("feed -1", x.toFeed(-1), HungryJury.OUTSIDE);
        Due.is("feed 2", x.toFeed(2), HungryJury.OUTSIDE);
        Due.is("feed 9", x.toFeed(9), HungryJury.OUTSIDE);
        x = Due.jury("J1P090P090P190");
        Due.is("for no", x.toFeed(0), 0);
        Due.is("for yes", x.toFeed(1), HungryJury.NONE);
        x = Due.jury("J1P190P090");
        Due.hours(x, 9);
        Due.is("a tie for no", x.toFeed(0), HungryJury.NONE);
        Due.is("a tie for yes", x.toFeed(1), HungryJury.NONE);
    }

    private static void strike() {
        HungryJury x = Due.jury(SLOW);
        Due.is("two of three", x.strike(0), 3);
        Due.is("nobody", x.strike(1), 0);
        x.die(0);
        Due.is("a tie: one for no", x.strike(0), 2);
        Due.is("a tie: one for yes", x.strike(1), 8);
        Due.is("strike -1", x.strike(-1), HungryJury.OUTSIDE);
        Due.is("strike 2", x.strike(2), HungryJury.OUTSIDE);
        x = Due.jury("J6P090P190P090P190P090P190");
        x.toss(4);
        Due.is("the least of like many", x.strike(0), 2 + 8 + 16);
        Due.is("five of six", Due.jury("J6P190P190P190P190P090P190").strike(0), 47);
        x = Due.jury("J6P190P190");
        Due.is("not all", x.strike(0), HungryJury.NONE);
        Due.is("all are already", x.strike(1), 0);
        x = Due.jury("J6P090");
        Due.is("one alone", x.strike(1), HungryJury.NONE);
        Due.is("the hour stays", x.count(3), 0);
    }

    private static void toMove() {
        HungryJury x = Due.jury(SLOW);
        Due.is("none need be moved", x.toMove(1, false), 0);
        Due.is("the row", x.toMove(1, true), 0);
        Due.is("no moving helps", x.toMove(0, false), HungryJury.NONE);
        Due.is("no row", x.toMove(0, true), HungryJury.NONE);
        Due.is("move -1", x.toMove(-1, false), HungryJury.OUTSIDE);
        Due.is("move 2", x.toMove(2, true), HungryJury.OUTSIDE);
        x = Due.jury("J1P190P090");
        Due.is("a tie", x.toMove(0, true), HungryJury.NONE);
        Due.is("a tie", x.toMove(1, false), HungryJury.NONE);
    }

    private static void judged(HungryJury x, int n, int row, int due) {
        Due.is("judge " + n + " " + row, x.judge(n, row), due);
    }

    private static void judge() {
        int none = HungryJury.NONE;
        HungryJury x = Due.jury("J6P120P090P090P190");
        judged(x, 1, 0, none);
        judged(x, 4, 0, none);
        judged(x, 1, 1, 0);
        judged(x, 2, 9, 1);
        judged(x, 1, 10, none);
        judged(x, 2, 1010, 1);
        judged(x, 3, 100010, 2);
        judged(x, 1, 14, 0);
        judged(x, 1, 19, 0);
        judged(x, 1, 20, 0);
        judged(x, 2, 20, none);
        judged(x, 3, 2020, 2);
        judged(x, 2, 3010, 1);
        judged(x, 3, 3020, 2);
        judged(x, 2, 3030, 1);
        judged(x, 2, 3040, 1);
        judged(x, 4, 30313233, none);
        judged(x, 4, 40404040, none);
        judged(x, 1, 50, 0);
        judged(x, 1, 99, 0);
        judged(x, 4, 99999999, 0);
        judged(x, 2, 50, 1);
        judged(x, 3, 4000, none);
        // A verdict at once: the hour makes nobody hungry.
        judged(x, 4, 30330021, 3);
        judged(x, 4, 30000021, none);
        judged(x, 0, 0, HungryJury.OUTSIDE);
        judged(x, 5, 0, HungryJury.OUTSIDE);
        judged(x, -1, 0, HungryJury.OUTSIDE);
        judged(x, Integer.MAX_VALUE, 0, HungryJury.OUTSIDE);
        judged(x, 1, -1, HungryJury.OUTSIDE);
        judged(x, 1, 100, HungryJury.OUTSIDE);
        judged(x, 2, 10000, HungryJury.OUTSIDE);
        judged(x, 3, 1000000, HungryJury.OUTSIDE);
        judged(x, 4, 100000000, HungryJury.OUTSIDE);
        judged(x, 4, Integer.MAX_VALUE, HungryJury.OUTSIDE);
    }

    /** None of these calls changes anything. */
    private static void nothingChanges() {
        HungryJury x = Due.jury("J6P190P091P190P042P193H31H30");
        Due.hours(x, 3);
        x.argue(1);
        String before = Due.stateOf(x);
        for (int v = -1; v <= 2; v++) {
            x.ahead(v * 5);
            x.end(v);
            x.gives(v);
            x.toFeed(v);
            x.strike(v);
            x.toMove(v, true);
            x.judge(4, 30314020 + v);
        }
        Due.same("state", Due.stateOf(x), before);
        Due.is("undo", x.undo(), 3);
    }

    public static void main(String[] args) {
        verdicts();
        ahead();
        end();
        gives();
        toFeed();
        strike();
        toMove();
        judge();
        nothingChanges();
        Due.finish();
    }
}
