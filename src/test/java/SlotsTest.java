/** Promises 28 to 30: keep, again, count. */
final class SlotsTest {
    private static void keepAndAgain() {
        HungryJury x = Due.jury("J6P191P092P140P013H01H20");
        Due.hours(x, 2);
        x.argue(0);
        String kept = worldOf(x);
        Due.is("keep 1", x.keep(1), 2);
        Due.is("keeping leaves the row", x.count(7), 3);
        Due.is("0 is not kept", x.again(0), HungryJury.STATE);
        x.hour();
        x.feed(1);
        x.toss(2);
        x.argue(3 - 3);
        x.die(3);
        x.hour();
        Due.is("keep 0", x.keep(0), 1);
        String later = worldOf(x);
        Due.that("it is other", !later.equals(kept));
        Due.is("again 1", x.again(1), 2);
        Due.same("as kept", worldOf(x), kept);
        Due.is("the row is empty", x.count(7), 0);
        Due.is("nothing to undo", x.undo(), HungryJury.STATE);
        x.hour();
        Due.is("again 1 once more", x.again(1), 2);
        Due.same("as kept still", worldOf(x), kept);
        Due.is("again 0", x.again(0), 1);
        Due.same("as kept later", worldOf(x), later);
        x.toss(0);
        Due.is("the row goes on", x.count(7), 1);
        Due.is("undo", x.undo(), 0);
        Due.same("undone", worldOf(x), later);
        x.hour();
        Due.is("kept anew", x.keep(1), 2);
        String latest = worldOf(x);
        x.hour();
        x.again(1);
        Due.same("as kept anew", worldOf(x), latest);
    }

    /** What is kept, and no more. */
    private static String worldOf(HungryJury x) {
        StringBuilder told = new StringBuilder().append(x.count(3)).append(' ').append(x.count(4));
        for (int i = 0; i < x.count(1); i++) {
            told.append(" |").append(x.juror(i, 0)).append(x.juror(i, 1)).append(' ').append(x.juror(i, 3));
        }
        return told.toString();
    }

    private static void notKept() {
        HungryJury x = Due.jury("J6P190P090");
        x.keep(0);
        x.see(0, 1, 1);
        x.seed(9);
        x.write('X');
        Due.is("again", x.again(0), 0);
        Due.is("seen stays", x.count(8), 1);
        Due.is("the seed stays", x.seed(0), 9);
        Due.is("the text stays", x.count(0), 11);
    }

    private static void count() {
        HungryJury x = Due.jury("J3P190P090P190P040H02");
        x.write('J');
        x.hour();
        x.toss(3);
        x.hour();
        x.die(0);
        x.see(2, 2, 0);
        x.see(2, 3, 0);
        int[] due = {22, 4, 3, 0, 14, 12, 9, 4, 2};
        for (int what = 0; what <= 8; what++) {
            Due.is("count " + what, x.count(what), due[what]);
        }
        x.hour();
        Due.is("the hour", x.count(3), 1);
        x.toss(1);
        Due.is("a verdict", x.count(6), 1);
        Due.is("count -1", x.count(-1), HungryJury.OUTSIDE);
        Due.is("count 9", x.count(9), HungryJury.OUTSIDE);
        Due.is("count least", x.count(Integer.MIN_VALUE), HungryJury.OUTSIDE);
    }

    public static void main(String[] args) {
        keepAndAgain();
        notKept();
        count();
        Due.finish();
    }
}
