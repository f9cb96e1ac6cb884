import java.util.List;
import java.util.function.Supplier;

/** Objects in the states that the tests of bounds begin with; each call makes one anew, just like the last one. */
final class Start {
    /** Three against three, so that hours change nothing but hunger; juror 4 is as little stubborn as may be. */
    private static final String EVEN = "J6P190P091P192P043P110P020H31H30H45";

    /** The same with pairs up to 56 letters. */
    private static final String LONGEST = EVEN + "H01H10H02H20H12H21H54";

    private Start() {
    }

    /** New, and nothing called. */
    static HungryJury anew() {
        return new HungryJury();
    }

    /** A jury of nobody, and an hour that has passed. */
    static HungryJury nobody() {
        HungryJury x = Due.jury("J3");
        x.hour();
        return x;
    }

    /** Everything is neither empty nor full: a text of another jury, acts, sights, one slot, a seed; juror 5 is dead. */
    static HungryJury busy() {
        HungryJury x = Due.jury(EVEN);
        x.seed(-77);
        x.hour();
        x.die(5);
        x.keep(1);
        Due.hours(x, 3);
        x.feed(3);
        x.argue(0);
        x.toss(2);
        x.see(0, 2, 1);
        x.see(5, 9, 0);
        x.see(3, 0, 0);
        Due.rewrite(x, "J2P013P190H10");
        return x;
    }

    /** Nothing more can be put into anything: the text, the acts, the sights, the slots. */
    static HungryJury full() {
        HungryJury x = Due.jury(LONGEST);
        x.seed(Long.MIN_VALUE);
        x.argue(0);
        x.keep(0);
        Due.hours(x, 12);
        x.argue(1);
        x.keep(1);
        x.toss(1);
        x.feed(2);
        for (int n = 0; n < 6; n++) {
            x.see(n, n, n & 1);
        }
        return x;
    }

    static List<Supplier<HungryJury>> ofSix() {
        return List.of(Start::busy, Start::full);
    }

    static List<Supplier<HungryJury>> all() {
        return List.of(Start::anew, Start::nobody, Start::busy, Start::full);
    }
}
