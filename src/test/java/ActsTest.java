/** Promises 7 to 12: hour, argue, feed, die, toss, undo. */
final class ActsTest {
    /** Hours pass; in which one the juror gives in. */
    private static int hourOfGivingIn(HungryJury x, int juror) {
        int was = x.juror(juror, 0);
        for (int n = 1; n <= 40; n++) {
            x.hour();
            if (x.juror(juror, 0) != was) {
                return n;
            }
        }
        return 0;
    }

    private static void givesInAt(String text, int juror, int due) {
        Due.is("hour of giving in of " + juror + " in " + text, hourOfGivingIn(Due.jury(text), juror), due);
    }

    private static void hungerByKind() {
        // Two against two: nobody gives in, so that hunger alone goes on.
        HungryJury x = Due.jury("J6P190P091P192P093");
        int[][] due = {{1, 2, 0, 1}, {2, 4, 1, 2}, {3, 6, 1, 3}, {4, 8, 2, 4}};
        for (int n = 0; n < 4; n++) {
            Due.is("hour " + n + ": nobody gives in", x.hour(), 0);
            for (int i = 0; i < 4; i++) {
                Due.is("hunger of " + i + " behind hour " + (n + 1), x.juror(i, 3), due[n][i]);
            }
        }
        Due.hours(x, 6);
        Due.is("stout at 10", x.juror(1, 3), 20);
        Due.hours(x, 1);
        Due.is("stout at 11: 20 at most", x.juror(1, 3), 20);
        Due.hours(x, 30);
        Due.is("plain at most", x.juror(0, 3), 20);
        Due.is("figs at 41", x.juror(2, 3), 20);
        Due.is("sleeper at most", x.juror(3, 3), 20);
        Due.is("the hour", x.count(3), 41);
    }

    private static void givesIn() {
        // Two are for the other side: one more than it alone.
        givesInAt("J6P190P190P090", 2, 8);
        givesInAt("J6P190P190P020", 2, 1);
        givesInAt("J6P190P190P030", 2, 2);
        givesInAt("J6P090P090P190", 2, 8);
        givesInAt("J6P190P190P091", 2, 4);
        givesInAt("J6P190P190P092", 2, 16);
        givesInAt("J6P190P190P093", 2, 9);
        // Three more than it.
        givesInAt("J6P190P190P190P190P050", 4, 2);
        // Whom it heeds counts 2, if on the other side.
        givesInAt("J6P190P190P090H20", 2, 6);
        givesInAt("J6P190P190P090H20H21", 2, 4);
        givesInAt("J6P190P190P090H02H12", 2, 8);
        givesInAt("J6P190P190P190P090P090H43", 4, 8);
        // Hunger alone wakes a sleeper.
        givesInAt("J6P190P190P043H20H21", 2, 4);
        // As many on both sides: never.
        givesInAt("J6P110P010", 0, 0);
        givesInAt("J6P110P010H01", 0, 0);
        // Who is of the greater side never does.
        givesInAt("J6P110P190P090H02", 0, 0);
    }

    private static void inOrder() {
        HungryJury x = Due.jury("J6P020P040P190P190P190");
        Due.is("the second sees the first", x.hour(), 2);
        Due.is("all are yes", x.count(5), 31);
        x = Due.jury("J6P040P020P190P190P190");
        Due.is("the first does not see the second", x.hour(), 1);
        Due.is("all but the first", x.count(5), 30);
        Due.is("then it gives in", x.hour(), 1);
        // The first goes over, and with it the greater side: none of the others has to.
        x = Due.jury("J6P120P140P090P090P090");
        Due.is("both are gone over", x.hour(), 2);
        // One against two; behind it one of the two would be against two of the other side.
        x = Due.jury("J6P110P010P010");
        Due.is("one goes over, not back", x.hour(), 1);
        Due.is("nobody is yes", x.count(5), 0);
    }

    private static void verdictStopsHours() {
        HungryJury x = Due.jury("J2P190P190P010");
        Due.is("a verdict", x.count(6), 1);
        Due.is("nothing", x.hour(), 0);
        Due.is("the hour", x.count(3), 1);
        Due.is("no hunger", x.juror(2, 3), 0);
        Due.is("it stays", x.count(5), 3);
        // The verdict is looked at as the hour begins: those behind the one who makes it go on in it.
        x = Due.jury("J4P190P190P190P020P040");
        Due.is("the fourth makes it, the fifth follows", x.hour(), 2);
        Due.is("five", x.count(5), 31);
    }

    private static void deadAreNot() {
        HungryJury x = Due.jury("J6P190P190P090P090P190");
        Due.is("die 4", x.die(4), 4);
        Due.is("two against two", x.hour(), 0);
        Due.is("its hunger stays", x.juror(4, 3), 0);
        Due.hours(x, 10);
        Due.is("two against two still", x.count(5), 3);
        x = Due.jury("J6P190P190P040H21");
        x.die(1);
        Due.is("whom it heeds is dead, and one against one", x.hour(), 0);
        Due.is("no hour more helps", hourOfGivingIn(x, 2), 0);
    }

    private static void hourWithNobody() {
        HungryJury x = new HungryJury();
        Due.is("hour", x.hour(), 0);
        Due.is("the hour is one more", x.count(3), 1);
        Due.is("an act", x.count(7), 1);
    }

    private static void argue() {
        HungryJury x = Due.jury("J6P130P090");
        Due.is("argue", x.argue(0), 2);
        Due.is("argue", x.argue(0), 1);
        Due.is("1 already", x.argue(0), HungryJury.STATE);
        Due.is("acts", x.count(7), 2);
        Due.is("no such", x.argue(2), HungryJury.UNKNOWN);
        Due.is("no such", x.argue(-1), HungryJury.UNKNOWN);
        x.die(1);
        Due.is("dead", x.argue(1), HungryJury.STATE);
        Due.is("the dead one stays as stubborn", x.juror(1, 1), 9);
    }

    private static void feed() {
        HungryJury x = Due.jury("J6P191P090");
        Due.is("none", x.feed(0), HungryJury.STATE);
        Due.hours(x, 3);
        Due.is("fed", x.feed(0), 6);
        Due.is("hunger", x.juror(0, 3), 0);
        Due.is("the other one", x.juror(1, 3), 3);
        Due.is("none again", x.feed(0), HungryJury.STATE);
        Due.is("no such", x.feed(2), HungryJury.UNKNOWN);
        Due.is("no such", x.feed(-1), HungryJury.UNKNOWN);
        x.die(1);
        Due.is("dead", x.feed(1), HungryJury.STATE);
        Due.is("its hunger stays", x.juror(1, 3), 3);
        Due.is("acts", x.count(7), 5);
    }

    private static void die() {
        HungryJury x = Due.jury("J3P190P090P090");
        Due.hours(x, 3);
        Due.is("die", x.die(1), 2);
        Due.is("the hour", x.count(3), 0);
        Due.is("hunger stays", x.juror(0, 3), 3);
        Due.is("there", x.count(4), 5);
        Due.is("dead already", x.die(1), HungryJury.STATE);
        Due.is("no such", x.die(3), HungryJury.UNKNOWN);
        Due.is("no such", x.die(-1), HungryJury.UNKNOWN);
        Due.is("die", x.die(0), 1);
        Due.is("one is all", x.count(6), 0);
        Due.is("die", x.die(2), 0);
        Due.is("nobody: no verdict", x.count(6), 9);
        // THE HOUR is 0 again, so that figs are eaten in other hours.
        x = Due.jury("J6P192P092P190");
        x.hour();
        x.die(2);
        x.hour();
        Due.is("no hunger in hour 1 again", x.juror(0, 3), 0);
        x.hour();
        Due.is("hunger in hour 2", x.juror(0, 3), 1);
    }

    private static void toss() {
        HungryJury x = Due.jury("J2P190P090");
        Due.is("toss", x.toss(0), 0);
        Due.is("toss back", x.toss(0), 1);
        Due.is("toss", x.toss(1), 1);
        Due.is("both", x.count(5), 3);
        Due.is("no such", x.toss(2), HungryJury.UNKNOWN);
        Due.is("no such", x.toss(-1), HungryJury.UNKNOWN);
        x.die(0);
        Due.is("dead", x.toss(0), HungryJury.STATE);
        Due.is("acts", x.count(7), 4);
    }

    private static void undo() {
        HungryJury x = Due.jury("J6P191P092P140P013H01H20");
        String[] states = new String[9];
        states[0] = Due.stateOf(x);
        x.hour();
        states[1] = Due.stateOf(x);
        x.argue(0);
        states[2] = Due.stateOf(x);
        x.hour();
        states[3] = Due.stateOf(x);
        x.feed(0);
        states[4] = Due.stateOf(x);
        x.toss(3);
        states[5] = Due.stateOf(x);
        x.die(2);
        states[6] = Due.stateOf(x);
        x.hour();
        states[7] = Due.stateOf(x);
        x.die(0);
        for (int left = 7; left >= 0; left--) {
            Due.is("undo", x.undo(), left);
            Due.same("undone to " + left, Due.stateOf(x), states[left]);
        }
        Due.is("no more", x.undo(), HungryJury.STATE);
        Due.same("still", Due.stateOf(x), states[0]);
    }

    private static void undoFourteen() {
        HungryJury x = Due.jury("J6P190P090");
        for (int n = 1; n <= 17; n++) {
            x.hour();
            Due.is("acts", x.count(7), Math.min(n, 14));
        }
        for (int left = 13; left >= 0; left--) {
            Due.is("undo", x.undo(), left);
            Due.is("the hour", x.count(3), left + 3);
            Due.is("hunger", x.juror(0, 3), left + 3);
        }
        Due.is("no more", x.undo(), HungryJury.STATE);
        Due.is("the first three can't be undone", x.count(3), 3);
        for (int n = 1; n <= 16; n++) {
            x.toss(0);
        }
        x.argue(1);
        Due.is("undo", x.undo(), 13);
        Due.is("argued no more", x.juror(1, 1), 9);
    }

    public static void main(String[] args) {
        hungerByKind();
        givesIn();
        inOrder();
        verdictStopsHours();
        deadAreNot();
        hourWithNobody();
        argue();
        feed();
        die();
        toss();
        undo();
        undoFourteen();
        Due.finish();
    }
}
