/** The sentences on refusals as such, and on how long an object is used, each with a test of its own. */
final class BoundsOfRefusalsTest {
    private static void constants() {
        Due.sentence("Terms 0", "REFUSALS, of several the first that a call names: "
            + "UNKNOWN (there is no such JUROR, SLOT), OUTSIDE (another number is not as told), STATE (as told), FULL.");
        Due.is("UNKNOWN", HungryJury.UNKNOWN, -1);
        Due.is("OUTSIDE", HungryJury.OUTSIDE, -2);
        Due.is("STATE", HungryJury.STATE, -3);
        Due.is("FULL", HungryJury.FULL, -4);
    }

    private static void none() {
        Due.sentence("Terms 0", "NONE is -9.");
        Due.is("NONE", HungryJury.NONE, -9);
        Due.is("fault of a jury", Due.written("J1").fault(), -9);
        Due.is("end of nobody", new HungryJury().end(0), -9);
        Due.is("judge of an hour", new HungryJury().judge(1, 0), -9);
    }

    /** A dead juror, full sights, a full text, an empty slot. */
    private static HungryJury wanting() {
        HungryJury x = Due.jury("J6P110P091P192P093P110P020H31H30H45H01H10H02H20H12H21H54");
        x.die(0);
        for (int n = 0; n < 6; n++) {
            x.see(n, n, 1);
        }
        return x;
    }

    private static void refused(String what, Refused.Call call, int refusal) {
        Refused.is(what, BoundsOfRefusalsTest::wanting, call, refusal);
    }

    private static void inTheirOrder() {
        Due.sentence("Terms 0", "of several the first that a call names");
        refused("write: OUTSIDE ahead of FULL", x -> x.write(256), HungryJury.OUTSIDE);
        refused("write: OUTSIDE ahead of FULL, below", x -> x.write(-1), HungryJury.OUTSIDE);
        refused("write: FULL alone", x -> x.write(255), HungryJury.FULL);
        refused("juror: UNKNOWN ahead of OUTSIDE", x -> x.juror(6, 6), HungryJury.UNKNOWN);
        refused("juror: UNKNOWN ahead of OUTSIDE, below", x -> x.juror(-1, -1), HungryJury.UNKNOWN);
        refused("juror: OUTSIDE alone", x -> x.juror(0, 6), HungryJury.OUTSIDE);
        refused("see: UNKNOWN ahead of OUTSIDE and FULL", x -> x.see(6, 10, 2), HungryJury.UNKNOWN);
        refused("see: UNKNOWN ahead of OUTSIDE, n", x -> x.see(-1, -1, 0), HungryJury.UNKNOWN);
        refused("see: UNKNOWN ahead of OUTSIDE, v", x -> x.see(6, 0, -1), HungryJury.UNKNOWN);
        refused("see: UNKNOWN ahead of FULL", x -> x.see(6, 0, 0), HungryJury.UNKNOWN);
        refused("see: OUTSIDE, n, ahead of FULL", x -> x.see(5, 10, 0), HungryJury.OUTSIDE);
        refused("see: OUTSIDE, v, ahead of FULL", x -> x.see(5, 9, 2), HungryJury.OUTSIDE);
        refused("see: FULL alone", x -> x.see(5, 9, 1), HungryJury.FULL);
        refused("rests: UNKNOWN, both, ahead of both are one", x -> x.rests(6, 6, 0), HungryJury.UNKNOWN);
        refused("rests: UNKNOWN, one, ahead of what", x -> x.rests(6, 0, 2), HungryJury.UNKNOWN);
        refused("rests: UNKNOWN, other, ahead of what", x -> x.rests(0, 6, -1), HungryJury.UNKNOWN);
        refused("rests: OUTSIDE, both are one, and what", x -> x.rests(0, 0, 2), HungryJury.OUTSIDE);
    }

    /** A juror that there is not isn't there either, and a slot that there is not was never kept. */
    private static void unknownAheadOfState() {
        Due.sentence("Terms 0", "of several the first that a call names");
        refused("argue: UNKNOWN ahead of STATE", x -> x.argue(6), HungryJury.UNKNOWN);
        refused("feed: UNKNOWN ahead of STATE", x -> x.feed(6), HungryJury.UNKNOWN);
        refused("die: UNKNOWN ahead of STATE", x -> x.die(6), HungryJury.UNKNOWN);
        refused("toss: UNKNOWN ahead of STATE", x -> x.toss(6), HungryJury.UNKNOWN);
        refused("gives: UNKNOWN ahead of STATE", x -> x.gives(6), HungryJury.UNKNOWN);
        refused("again: UNKNOWN ahead of STATE", x -> x.again(2), HungryJury.UNKNOWN);
        refused("argue: STATE, dead and 1 already", x -> x.argue(0), HungryJury.STATE);
        refused("argue: STATE, 1 already", x -> x.argue(4), HungryJury.STATE);
        refused("feed: STATE, dead and not hungry", x -> x.feed(0), HungryJury.STATE);
        refused("feed: STATE, not hungry", x -> x.feed(1), HungryJury.STATE);
        refused("die: STATE", x -> x.die(0), HungryJury.STATE);
        refused("toss: STATE", x -> x.toss(0), HungryJury.STATE);
        refused("gives: STATE", x -> x.gives(0), HungryJury.STATE);
        refused("again: STATE", x -> x.again(0), HungryJury.STATE);
    }

    /** Behind a great many refusals of every kind, all is as it was. */
    private static void nothingIsChanged() {
        Due.sentence("Terms 0", "What is refused changes nothing.");
        HungryJury x = wanting();
        long[] answers = {x.write(-1), x.write(0), x.juror(6, 0), x.juror(0, 6), x.argue(6), x.argue(0), x.feed(6),
            x.feed(0), x.die(-1), x.die(0), x.toss(-1), x.toss(0), x.ahead(10), x.end(2), x.gives(0), x.toFeed(2),
            x.strike(2), x.toMove(2, true), x.judge(0, 0), x.judge(1, 100), x.see(6, 0, 0), x.see(0, 10, 0),
            x.see(0, 0, 0), x.first(3), x.share(6, true), x.rests(0, 0, 0), x.coins(2, 0, true),
            x.coins(0, 11, true), x.assizes(0), x.assizes(21), x.keep(2), x.again(2), x.again(0), x.count(9)};
        for (int i = 0; i < answers.length; i++) {
            Due.that("answer " + i + " is a refusal", answers[i] <= -1 && answers[i] >= -4);
        }
        Due.same("all that there is", Refused.wholeOf(x), Refused.wholeOf(wanting()));
        x = new HungryJury();
        Due.is("jury of no text", x.jury(), HungryJury.STATE);
        Due.is("undo of no act", x.undo(), HungryJury.STATE);
        Due.same("all that there is", Refused.wholeOf(x), Refused.wholeOf(new HungryJury()));
    }

    private static void fiveHundredAndTwelveCalls() {
        Due.sentence("What it is", "An object is used for at most 512 calls after it has been made;");
        HungryJury x = new HungryJury();
        for (int n = 1; n <= 512; n++) {
            Due.is("hour of nobody, call " + n, n < 512 ? x.hour() : x.count(3), n < 512 ? 0 : 511);
        }
        x = Due.jury("J6P190P091P192P093");
        int calls = 19;
        int hours = 0;
        while (calls < 510) {
            x.hour();
            hours++;
            calls++;
        }
        Due.is("call 511", x.count(3), hours);
        Due.is("call 512", x.undo(), 13);
    }

    public static void main(String[] args) {
        constants();
        none();
        inTheirOrder();
        unknownAheadOfState();
        nothingIsChanged();
        fiveHundredAndTwelveCalls();
        Due.finish();
    }
}
