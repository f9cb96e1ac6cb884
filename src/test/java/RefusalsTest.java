/** All promises: what is refused changes nothing, whatever it is and in whatever state. */
final class RefusalsTest {
    private static final int[] WILD = {Integer.MIN_VALUE, Integer.MIN_VALUE + 1, -1000000007, -100, -32, -10, -9, -2, -1,
        0, 1, 2, 3, 5, 6, 7, 9, 10, 14, 20, 21, 31, 32, 33, 63, 64, 99, 100, 255, 256, 9999, 10000, 99999999, 100000000,
        1 << 30, Integer.MAX_VALUE - 1, Integer.MAX_VALUE};

    private static boolean isRefusal(int answer) {
        return answer < 0 && answer >= HungryJury.FULL;
    }

    /** One call of those that can be refused; which of them, by its number. */
    private static int call(HungryJury x, int which, int a, int b) {
        switch (which) {
            case 0: return x.write(a);
            case 1: return x.jury();
            case 2: return x.juror(a, b);
            case 3: return x.argue(a);
            case 4: return x.feed(a);
            case 5: return x.die(a);
            case 6: return x.toss(a);
            case 7: return x.undo();
            case 8: return x.ahead(a);
            case 9: return x.end(a);
            case 10: return x.gives(a);
            case 11: return x.toFeed(a);
            case 12: return x.strike(a);
            case 13: return x.toMove(a, b > 0);
            case 14: return x.judge(a, b);
            case 15: return x.judge(b, a);
            case 16: return x.see(a, b, a);
            case 17: return x.see(0, a, b);
            case 18: return x.first(a);
            case 19: return x.share(a, b > 0);
            case 20: return x.rests(a, b, 0);
            case 21: return x.rests(0, 1, b);
            case 22: return x.coins(a, b, true);
            case 23: return x.assizes(a);
            case 24: return x.keep(a);
            case 25: return x.again(a);
            default: return x.count(a);
        }
    }

    private static final int CALLS = 27;

    private static HungryJury inState(int state) {
        if (state == 0) {
            return new HungryJury();
        }
        if (state == 1) {
            return Due.jury("J3");
        }
        HungryJury x = Due.jury(state == 2 ? "J6P191P092P140P013H01H20" : "J4P190P091P192P043P110P020H53H45H01");
        Due.hours(x, 2);
        x.die(2);
        x.seed(3);
        if (state == 3) {
            Due.rewrite(x, "J4P190P091P192P043P110P020H53H45H01H02H03H04H05H10H12H1");
            x.keep(1);
            for (int i = 0; i < 6; i++) {
                x.see(0, i, 1);
            }
            Due.hours(x, 20);
        }
        return x;
    }

    private static void refusedChangesNothing(int state, int which) {
        HungryJury x = inState(state);
        String before = Due.stateOf(x);
        int calls = 100;
        for (int a : WILD) {
            int b = WILD[(a & 0x7fffffff) % WILD.length];
            int answer = call(x, which, a, b);
            String after = Due.stateOf(x);
            if (isRefusal(answer)) {
                Due.same("state " + state + " behind refused call " + which + " of " + a + ", " + b, after, before);
            }
            before = after;
            calls += 60;
            if (calls > 440) {
                x = inState(state);
                before = Due.stateOf(x);
                calls = 100;
            }
        }
    }

    /** No call throws, for any arguments; the answers of wild ones are in the face's range. */
    private static void wildArguments(int state) {
        for (int which = 0; which < CALLS; which++) {
            for (int a : WILD) {
                HungryJury x = inState(state);
                for (int b : WILD) {
                    int answer = call(x, which, a, b);
                    Due.that("answer " + answer + " of call " + which, answer >= HungryJury.NONE);
                }
            }
        }
    }

    /** Nor does one throw behind the 512th call, whatever it answers. */
    private static void longUse() {
        HungryJury x = Due.jury("J4P190P091P192P043P110P020H53H45H01");
        for (int i = 0; i < 20000; i++) {
            call(x, i * 7 % CALLS, i % 11 - 2, i % 13 - 2);
            x.hour();
        }
        Due.that("the object still answers", x.count(1) >= 0);
    }

    public static void main(String[] args) {
        for (int state = 0; state < 4; state++) {
            for (int which = 0; which < CALLS; which++) {
                refusedChangesNothing(state, which);
            }
            wildArguments(state);
        }
        longUse();
        Due.finish();
    }
}
