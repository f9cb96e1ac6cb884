import java.util.function.Supplier;

/** The sentences on hours, verdicts and ACTS that name a boundary, each with a test of its own; promises 7 to 12. */
final class BoundsOfActsTest {
    /** So many for one side and so many for the other one, all of them as stubborn as may be. */
    private static String panel(int need, int ofSide, int side, int ofOther) {
        return "J" + need + ("P" + side + "90").repeat(ofSide) + ("P" + (1 - side) + "90").repeat(ofOther);
    }

    // ---- the verdict

    private static void verdictOfAll() {
        Due.sentence("Terms 1", "VERDICT: 1, if all who are there are YES,");
        for (int need = 1; need <= 6; need++) {
            for (int all = 1; all <= 6; all++) {
                Due.is(all + " YES, need " + need, Due.jury(panel(need, all, 1, 0)).count(6), 1);
            }
        }
        HungryJury x = Due.jury("J6P190P190P090");
        Due.is("all but one", x.count(6), 9);
        x.die(2);
        Due.is("all who are there", x.count(6), 1);
    }

    private static void verdictOfNeed() {
        Due.sentence("Terms 1", "or NEED of them or more are, and more than are NO;");
        for (int yes = 1; yes <= 5; yes++) {
            for (int no = 1; no <= 6 - yes; no++) {
                for (int need = 1; need <= 6; need++) {
                    int due = yes > no && yes >= need ? 1 : no > yes && no >= need ? 0 : 9;
                    Due.is(yes + " YES, " + no + " NO, need " + need,
                        Due.jury(panel(need, yes, 1, no)).count(6), due);
                }
            }
        }
    }

    private static void verdictNo() {
        Due.sentence("Terms 1", "0, if that is so of NO likewise;");
        Due.is("one NO alone", Due.jury("J6P090").count(6), 0);
        Due.is("six", Due.jury(panel(6, 6, 0, 0)).count(6), 0);
        Due.is("as many as need be", Due.jury(panel(4, 4, 0, 2)).count(6), 0);
        Due.is("one fewer", Due.jury(panel(5, 4, 0, 2)).count(6), 9);
        Due.is("no more than are YES", Due.jury(panel(3, 3, 0, 3)).count(6), 9);
    }

    private static void verdictOfNobody() {
        Due.sentence("Terms 1", "9: none (also if nobody is there).");
        Due.is("a new object", new HungryJury().count(6), 9);
        Due.is("a jury of none", Due.jury("J1").count(6), 9);
        HungryJury x = Due.jury("J1P190");
        Due.is("one", x.count(6), 1);
        x.die(0);
        Due.is("none left", x.count(6), 9);
        Due.is("as many on both sides", Due.jury(panel(1, 1, 1, 1)).count(6), 9);
    }

    // ---- an hour

    private static void oneHourMore() {
        Due.sentence("Terms 1", "AN HOUR: THE HOUR is one more;");
        for (String text : new String[] {"J1", "J6P190", "J6P190P090", "J6P190P190P190P090P092", "J1P190P191P010"}) {
            HungryJury x = Due.jury(text);
            for (int n = 0; n <= 200; n++) {
                Due.is("the hour of " + text, x.count(3), n);
                if (n > 150) {
                    x.toss(0);
                }
                x.hour();
            }
        }
    }

    private static void hungerOfEachKind() {
        Due.sentence("Terms 1", "each one that is there has 1 HUNGER more (STOUT: 2 more; "
            + "FIGS: 1 more only if THE HOUR is even then; 20 at most).");
        HungryJury x = Due.jury("J6P190P091P192P093");
        for (int n = 1; n <= 45; n++) {
            Due.is("who gives in in hour " + n, x.hour(), 0);
            Due.is("the hour", x.count(3), n);
            Due.is("PLAIN behind hour " + n, x.juror(0, 3), Math.min(20, n));
            Due.is("STOUT behind hour " + n, x.juror(1, 3), Math.min(20, 2 * n));
            Due.is("FIGS behind hour " + n, x.juror(2, 3), Math.min(20, n / 2));
            Due.is("ASLEEP behind hour " + n, x.juror(3, 3), Math.min(20, n));
        }
    }

    private static void figsByTheHour() {
        Due.sentence("Terms 1", "FIGS: 1 more only if THE HOUR is even then;");
        HungryJury x = Due.jury("J6P192P092P190");
        x.hour();
        x.die(2);
        // THE HOUR is 0 again: its next one is 1, though it is the second one that passes.
        int[] due = {0, 1, 1, 2};
        for (int n = 0; n < due.length; n++) {
            x.hour();
            Due.is("FIGS behind hour " + (n + 1), x.juror(0, 3), due[n]);
        }
    }

    private static void whoIsThereIsHungry() {
        Due.sentence("Terms 1", "each one that is there has 1 HUNGER more");
        HungryJury x = Due.jury("J6P190P091P192P093P190P090");
        Due.hours(x, 2);
        for (int i = 0; i < 4; i++) {
            x.die(i);
        }
        Due.hours(x, 2);
        int[] due = {2, 4, 1, 2, 4, 4};
        for (int i = 0; i < 6; i++) {
            Due.is("hunger of " + i, x.juror(i, 3), due[i]);
        }
    }

    /** The last juror told stays till it must give in, which is due in that hour; all others are for the other side. */
    private static void givesInAt(String text, int due) {
        HungryJury x = Due.jury(text);
        int last = x.count(1) - 1;
        int side = x.juror(last, 0);
        for (int n = 1; n < due; n++) {
            Due.is(text + ": who gives in in hour " + n, x.hour(), 0);
            Due.is(text + ": its side behind hour " + n, x.juror(last, 0), side);
        }
        Due.is(text + ": who gives in in hour " + due, x.hour(), 1);
        Due.is(text + ": its side then", x.juror(last, 0), 1 - side);
    }

    private static void asMuchAsStubborn() {
        Due.sentence("Terms 1", "and its HUNGER, and by how many they are more, and 2 for each one that it HEEDS, "
            + "is there, and is for the other side, are together as much as it is STUBBORN, or more");
        for (int others = 2; others <= 5; others++) {
            for (int s = 1; s <= 9; s++) {
                int hunger = Math.max(0, s - (others - 1));
                String yes = "J6" + "P190".repeat(others) + "P0" + s;
                String no = "J6" + "P090".repeat(others) + "P1" + s;
                givesInAt(yes + "0", Math.max(1, hunger));
                givesInAt(no + "0", Math.max(1, hunger));
                givesInAt(yes + "1", Math.max(1, (hunger + 1) / 2));
                givesInAt(no + "2", Math.max(1, 2 * hunger));
            }
        }
    }

    private static void twoForEachHeeded() {
        Due.sentence("Terms 1", "and 2 for each one that it HEEDS, is there, and is for the other side,");
        // Hunger 1, 3 more, and two for each one heeded: just as much as it is stubborn, or 1 less.
        givesInAt("J6P190P190P190P190P040", 1);
        givesInAt("J6P190P190P190P190P050", 2);
        givesInAt("J6P190P190P190P190P060H40", 1);
        givesInAt("J6P190P190P190P190P070H40", 2);
        givesInAt("J6P190P190P190P190P080H40H43", 1);
        givesInAt("J6P190P190P190P190P090H40H43", 2);
        // Not for one that heeds it.
        givesInAt("J6P190P190P190P190P060H04H14H24H34", 3);
        // Not for one of its own side, nor for a dead one: hunger 1 and 2 more.
        HungryJury x = Due.jury("J6P190P190P190P190P090P040H54");
        Due.is("its own side: first hour", x.hour(), 0);
        Due.is("its own side: second hour", x.hour(), 1);
        x = Due.jury("J6P190P190P190P190P050H40");
        x.die(0);
        Due.is("a dead one: first hour", x.hour(), 0);
        Due.is("a dead one: second hour", x.hour(), 0);
        Due.is("a dead one: third hour", x.hour(), 1);
    }

    private static void asleep() {
        Due.sentence("Terms 1", "(ASLEEP: only if its HUNGER alone is that).");
        for (int s = 1; s <= 9; s++) {
            givesInAt("J6P190P190P190P190P190P0" + s + "3H50H51H52H53H54", s);
            givesInAt("J6P090P090P1" + s + "3", s);
        }
        HungryJury x = Due.jury("J6P190P090P113P013");
        Due.hours(x, 30);
        Due.is("hunger is not enough, if no more are for the other side", x.count(5), 5);
    }

    private static void moreThanItsOwn() {
        Due.sentence("Terms 1",
            "if more of those that are there are for the other side than for its own (itself counted),");
        for (int half = 1; half <= 3; half++) {
            HungryJury x = Due.jury("J6" + "P110".repeat(half) + "P010".repeat(half) + "H01H10");
            Due.hours(x, 25);
            Due.is(half + " against as many: who is for YES", x.count(5), (1 << half) - 1);
        }
        Due.is("two against one", Due.jury("J6P110P110P010").hour(), 1);
        Due.is("three against two", Due.jury("J6P110P010P110P010P110").hour(), 2);
        HungryJury x = Due.jury("J6P110P110P110P010P010");
        x.die(1);
        Due.is("the dead one is not counted", x.hour(), 0);
        x.die(0);
        Due.is("two of the other side dead", x.hour(), 1);
        Due.is("it is for NO then", x.count(5), 0);
    }

    private static void byNumber() {
        Due.sentence("Terms 1", "Then each one that is there, by number (those ahead of it have given in already), "
            + "GIVES IN (is for the other side from then on),");
        // 3 against 2: hunger 1 and 1 more; when the one ahead has given in, 4 against 1: 3 more.
        HungryJury x = Due.jury("J6P190P190P190P020P040");
        Due.is("the one ahead and the one behind", x.hour(), 2);
        x = Due.jury("J6P190P190P190P040P020");
        Due.is("the one behind alone", x.hour(), 1);
        Due.is("it is the one behind", x.count(5), 16 + 7);
        x = Due.jury("J6P190P190P190P020P050");
        Due.is("not enough for the one behind", x.hour(), 1);
        // Whom it heeds has come to the other side ahead of it.
        x = Due.jury("J6P190P190P190P020P060H43");
        Due.is("whom it heeds has given in already", x.hour(), 2);
        x = Due.jury("J6P190P190P190P060P020H34");
        Due.is("whom it heeds has not yet", x.hour(), 1);
    }

    private static void hourWithVerdict() {
        Due.sentence("Terms 1", "If there is a VERDICT as it begins, nothing but that THE HOUR is one more.");
        HungryJury x = Due.jury("J3P190P191P190P010H30");
        for (int n = 1; n <= 21; n++) {
            Due.is("who gives in", x.hour(), 0);
            Due.is("the hour", x.count(3), n);
            Due.is("who is for YES", x.count(5), 7);
        }
        for (int i = 0; i < 4; i++) {
            Due.is("hunger of " + i, x.juror(i, 3), 0);
        }
        Due.is("they are acts all the same", x.count(7), 14);
        x = Due.jury("J4P190P190P190P010P040");
        Due.is("the fourth makes it, the fifth gives in still", x.hour(), 2);
        Due.is("hunger of that hour", x.juror(0, 3), 1);
        x.hour();
        Due.is("and of the next one", x.juror(0, 3), 1);
        x = Due.jury("J4P190P190P190P010P050");
        Due.is("the fourth makes it", x.hour(), 1);
        Due.is("the fifth is left alone", x.hour(), 0);
        x.toss(0);
        x.toss(3);
        Due.is("none any more", x.count(6), 9);
        x.hour();
        Due.is("hunger goes on", x.juror(0, 3), 2);
    }

    private static void hour() {
        Due.sentence("Promise 7", "AN HOUR: how many GAVE IN.");
        HungryJury x = new HungryJury();
        for (int n = 1; n <= 20; n++) {
            Due.is("hour of nobody", x.hour(), 0);
            Due.is("the hour", x.count(3), n);
        }
        Due.is("nobody is wanted", Due.jury("J6P190").hour(), 0);
        Due.is("one", Due.jury("J6P190P190P010").hour(), 1);
        Due.is("two, as many as may be", Due.jury("J6P190P190P190P190P010P010").hour(), 2);
        Due.is("two of YES", Due.jury("J6P090P110P090P110P090P090").hour(), 2);
    }

    // ---- what one juror undergoes

    private static void oneLessStubborn() {
        Due.sentence("Terms 1", "ARGUED: a JUROR is 1 less STUBBORN (1 at least).");
        HungryJury x = Due.jury("J6P190P090");
        for (int s = 8; s >= 1; s--) {
            Due.is("argue", x.argue(0), s);
            Due.is("how stubborn", x.juror(0, 1), s);
        }
        for (int n = 0; n < 3; n++) {
            Due.is("argue with 1", x.argue(0), HungryJury.STATE);
            Due.is("still", x.juror(0, 1), 1);
        }
        Due.is("the other one", x.juror(1, 1), 9);
    }

    private static void argue() {
        Due.sentence("Promise 8", "ARGUED: how STUBBORN it is then. UNKNOWN; STATE: it is not there, or 1 already.");
        Due.is("argue with 2", Due.jury("J1P120").argue(0), 1);
        Refused.is("argue with 1", () -> Due.jury("J1P110"), x -> x.argue(0), HungryJury.STATE);
        Refused.is("argue with 1 in a full row", Start::full, x -> x.argue(4), HungryJury.STATE);
        Refused.is("argue with a dead one", Start::busy, x -> x.argue(5), HungryJury.STATE);
        Refused.beyond("argue", HungryJury::argue, 0, 5, HungryJury.UNKNOWN);
    }

    private static void noHunger() {
        Due.sentence("Terms 1", "FED: a JUROR has no HUNGER.");
        HungryJury x = Due.jury("J6P190P090");
        Due.hours(x, 25);
        Due.is("feed", x.feed(0), 20);
        Due.is("hunger", x.juror(0, 3), 0);
        Due.is("of the other one", x.juror(1, 3), 20);
        x.hour();
        Due.is("it is hungry anew", x.juror(0, 3), 1);
    }

    private static void feed() {
        Due.sentence("Promise 9", "FED: the HUNGER it had. UNKNOWN; STATE: it is not there, or has none.");
        HungryJury x = Due.jury("J6P190P092P190P090");
        x.hour();
        Due.is("the least hunger", x.feed(0), 1);
        Refused.is("feed in hour 0", () -> Due.jury("J6P190P090"), y -> y.feed(0), HungryJury.STATE);
        Due.is("figs have none in hour 1", x.feed(1), HungryJury.STATE);
        Due.is("fed twice", x.feed(0), HungryJury.STATE);
        Refused.is("feed one that is fed", Start::full, y -> y.feed(2), HungryJury.STATE);
        x.die(3);
        Due.is("a dead one that was hungry", x.juror(3, 3), 1);
        Due.is("feed it", x.feed(3), HungryJury.STATE);
        Due.is("it is hungry still", x.juror(3, 3), 1);
        Refused.is("feed a dead one", Start::busy, y -> y.feed(5), HungryJury.STATE);
        Refused.beyond("feed", HungryJury::feed, 0, 5, HungryJury.UNKNOWN);
    }

    private static void hourOfDeath() {
        Due.sentence("Terms 1", "DEAD: a JUROR is there no more, and THE HOUR is 0 again.");
        HungryJury x = Due.jury("J6P190P090P190P090P190P090");
        for (int i = 0; i < 6; i++) {
            Due.hours(x, i);
            x.die(i);
            Due.is("the hour", x.count(3), 0);
            Due.is("there", x.count(4), 63 >> (i + 1) << (i + 1));
        }
        x.hour();
        Due.is("an hour behind the last one", x.count(3), 1);
    }

    private static void die() {
        Due.sentence("Promise 10", "DEAD: how many are there. UNKNOWN; STATE: it is not there.");
        HungryJury x = Due.jury("J6P190P090P190P090P190P090");
        for (int left = 5; left >= 0; left--) {
            Due.is("die", x.die(left), left);
            Due.is("die twice", x.die(left), HungryJury.STATE);
        }
        Refused.is("a dead one dies", Start::busy, y -> y.die(5), HungryJury.STATE);
        Refused.is("the last one, dead, dies", () -> {
            HungryJury y = Due.jury("J1P190");
            y.hour();
            y.die(0);
            y.hour();
            return y;
        }, y -> y.die(0), HungryJury.STATE);
        Refused.beyond("die", HungryJury::die, 0, 5, HungryJury.UNKNOWN);
    }

    private static void forTheOtherSide() {
        Due.sentence("Terms 1", "TOSSED: a JUROR is for the other side.");
        HungryJury x = Due.jury("J6P120P091");
        x.hour();
        x.argue(0);
        String before = Refused.roomOf(x);
        for (int n = 1; n <= 20; n++) {
            Due.is("toss", x.toss(0), 1 - n % 2);
            Due.is("who is for YES", x.count(5), 1 - n % 2);
            Due.is("how stubborn", x.juror(0, 1), 1);
            Due.is("hunger", x.juror(0, 3), 1);
            Due.is("the hour", x.count(3), 1);
        }
        Due.same("tossed twice, it is as it was", Refused.roomOf(x), before);
    }

    private static void toss() {
        Due.sentence("Promise 11", "TOSSED: what it is for then. UNKNOWN; STATE: it is not there.");
        HungryJury x = Due.jury("J6P190P090P190P090P190P090");
        for (int i = 0; i < 6; i++) {
            Due.is("toss " + i, x.toss(i), i & 1);
            Due.is("it is for", x.juror(i, 0), i & 1);
        }
        Due.is("all are for the other side", x.count(5), 42);
        Due.is("toss back", x.toss(5), 0);
        Refused.is("a dead one is tossed", Start::busy, y -> y.toss(5), HungryJury.STATE);
        Refused.beyond("toss", HungryJury::toss, 0, 5, HungryJury.UNKNOWN);
    }

    private static void noSuchJuror() {
        Due.sentence("Terms 0", "UNKNOWN (there is no such JUROR, SLOT)");
        StringBuilder text = new StringBuilder("J6");
        for (int jurors = 0; jurors <= 6; jurors++) {
            String told = text.toString();
            for (int i = jurors; i <= 6; i++) {
                int juror = i;
                Supplier<HungryJury> start = () -> Due.jury(told);
                Refused.is("juror " + i, start, x -> x.juror(juror, 0), HungryJury.UNKNOWN);
                Refused.is("argue " + i, start, x -> x.argue(juror), HungryJury.UNKNOWN);
                Refused.is("feed " + i, start, x -> x.feed(juror), HungryJury.UNKNOWN);
                Refused.is("die " + i, start, x -> x.die(juror), HungryJury.UNKNOWN);
                Refused.is("toss " + i, start, x -> x.toss(juror), HungryJury.UNKNOWN);
                Refused.is("gives " + i, start, x -> x.gives(juror), HungryJury.UNKNOWN);
                Refused.is("see " + i, start, x -> x.see(juror, 0, 0), HungryJury.UNKNOWN);
                Refused.is("share " + i, start, x -> x.share(juror, true), HungryJury.UNKNOWN);
                Refused.is("rests " + i + " 0", start, x -> x.rests(juror, 0, 0), HungryJury.UNKNOWN);
                Refused.is("rests 0 " + i, start, x -> x.rests(0, juror, 0), HungryJury.UNKNOWN);
            }
            text.append("P").append(jurors & 1).append("90");
        }
        // One of an earlier, greater jury is no more.
        HungryJury x = Start.full();
        Due.rewrite(x, "J1P190P190");
        x.jury();
        Due.is("argue 2 of two", x.argue(2), HungryJury.UNKNOWN);
        Due.is("toss 5 of two", x.toss(5), HungryJury.UNKNOWN);
    }

    // ---- the row of acts

    /** A jury with one act, and what it is like then; the rest of the row are hours. */
    private static HungryJury withRow(int acts) {
        HungryJury x = Due.jury("J6P190P091P192P093");
        if (acts > 0) {
            x.argue(3);
        }
        for (int n = 1; n < acts; n++) {
            x.hour();
        }
        return x;
    }

    /** One more act on a full row: its first one is forgotten, so that it can't be undone any more. */
    private static void oneMore(String what, Refused.Call act) {
        HungryJury x = withRow(14);
        Due.is("acts of the full row", x.count(7), 14);
        String full = Refused.roomOf(x);
        act.on(x);
        Due.is("acts behind one more, " + what, x.count(7), 14);
        Due.is("undo it", x.undo(), 13);
        Due.same("how all is then", Refused.roomOf(x), full);
        for (int left = 12; left >= 0; left--) {
            Due.is("undo", x.undo(), left);
            Due.is("the hour", x.count(3), left);
        }
        Due.same("all but the first act is undone", Refused.roomOf(x), Refused.roomOf(withRow(1)));
        Due.is("the first one can't be", x.undo(), HungryJury.STATE);
        Due.is("it is not", x.juror(3, 1), 8);
    }

    private static void fullRow() {
        Due.sentence("Terms 1", "ACTS (HOURS, ARGUED, FED, DEAD, TOSSED) are a row "
            + "(14 at most; of more the first one is forgotten);");
        for (int acts = 0; acts <= 14; acts++) {
            Due.is("acts", withRow(acts).count(7), acts);
        }
        oneMore("an hour", HungryJury::hour);
        oneMore("argued", x -> x.argue(1));
        oneMore("fed", x -> x.feed(1));
        oneMore("dead", x -> x.die(1));
        oneMore("tossed", x -> x.toss(1));
    }

    private static void manyMore() {
        Due.sentence("Terms 1", "of more the first one is forgotten");
        for (int acts = 13; acts <= 60; acts++) {
            HungryJury x = withRow(acts);
            int left = Math.min(14, acts);
            Due.is("acts of " + acts, x.count(7), left);
            for (int n = left - 1; n >= 0; n--) {
                Due.is("undo of " + acts, x.undo(), n);
            }
            Due.is("no more of " + acts, x.undo(), HungryJury.STATE);
            Due.is("the hour where it ends", x.count(3), Math.max(0, acts - 1 - 14));
            Due.is("argued, if that is forgotten", x.juror(3, 1), acts > 14 ? 8 : 9);
        }
    }

    private static void refusedIsNoAct() {
        Due.sentence("Terms 1", "(14 at most; of more the first one is forgotten)");
        HungryJury x = withRow(13);
        x.die(0);
        Due.is("no juror 4", x.toss(4), HungryJury.UNKNOWN);
        Due.is("a dead one", x.die(0), HungryJury.STATE);
        Due.is("a call that only asks", x.end(1), 0);
        Due.is("still 14", x.count(7), 14);
        for (int left = 13; left >= 0; left--) {
            Due.is("undo", x.undo(), left);
        }
        Due.same("the first one is not forgotten", Refused.roomOf(x), Refused.roomOf(withRow(0)));
    }

    private static void lastIsUndone() {
        Due.sentence("Terms 1", "the last one can be undone.");
        HungryJury x = withRow(10);
        String before = Refused.roomOf(x);
        Refused.Call[] acts = {HungryJury::hour, y -> y.argue(0), y -> y.feed(0), y -> y.die(0), y -> y.toss(0)};
        for (Refused.Call act : acts) {
            act.on(x);
            Due.that("it is other", !Refused.roomOf(x).equals(before));
            Due.is("undo", x.undo(), 10);
            Due.same("undone", Refused.roomOf(x), before);
        }
    }

    private static void undo() {
        Due.sentence("Promise 12", "The last ACT is undone: how many are left. STATE: there is none.");
        HungryJury x = withRow(14);
        for (int left = 13; left >= 0; left--) {
            Due.is("undo", x.undo(), left);
            Due.is("acts", x.count(7), left);
        }
        Due.is("none", x.undo(), HungryJury.STATE);
        Due.is("acts", x.count(7), 0);
        Refused.is("undo of a new one", Start::anew, HungryJury::undo, HungryJury.STATE);
        Refused.is("undo of a new jury", () -> withRow(0), HungryJury::undo, HungryJury.STATE);
        Refused.is("undo behind going on from a slot", () -> {
            HungryJury y = Start.full();
            y.again(1);
            return y;
        }, HungryJury::undo, HungryJury.STATE);
        Refused.is("undo behind a jury", () -> {
            HungryJury y = Start.busy();
            y.jury();
            return y;
        }, HungryJury::undo, HungryJury.STATE);
        x.hour();
        Due.is("the row goes on", x.undo(), 0);
    }

    public static void main(String[] args) {
        verdictOfAll();
        verdictOfNeed();
        verdictNo();
        verdictOfNobody();
        oneHourMore();
        hungerOfEachKind();
        figsByTheHour();
        whoIsThereIsHungry();
        asMuchAsStubborn();
        twoForEachHeeded();
        asleep();
        moreThanItsOwn();
        byNumber();
        hourWithVerdict();
        hour();
        oneLessStubborn();
        argue();
        noHunger();
        feed();
        hourOfDeath();
        die();
        forTheOtherSide();
        toss();
        noSuchJuror();
        fullRow();
        manyMore();
        refusedIsNoAct();
        lastIsUndone();
        undo();
        Due.finish();
    }
}
