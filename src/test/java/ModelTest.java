/** All promises: long runs of calls, ordinary ones and wrong ones, answered by the program as by the model. */
final class ModelTest {
    private static final int RUNS = 400;
    private static final int CALLS = 300;

    private static long state = 20261119L;

    private static int below(int n) {
        state = state * 6364136223846793005L + 1442695040888963407L;
        return (int) ((state >>> 33) % n);
    }

    /** A text, for the most part one that is a jury. */
    private static String someText() {
        StringBuilder text = new StringBuilder("J").append(1 + below(6));
        int jurors = below(12) == 0 ? below(8) : 2 + below(5);
        int most = below(3) == 0 ? 4 : 9;
        for (int i = 0; i < jurors; i++) {
            text.append('P').append(below(2)).append(1 + below(most)).append(below(3) == 0 ? below(4) : 0);
            if (i > 0 && below(3) == 0) {
                text.append('H').append(i).append(below(i));
            }
        }
        int pairs = below(6);
        for (int k = 0; k < pairs && jurors > 1; k++) {
            int one = below(jurors);
            int other = below(12) == 0 ? one : (one + 1 + below(jurors - 1)) % jurors;
            text.append('H').append(one).append(other);
        }
        if (below(5) == 0) {
            text.setCharAt(below(text.length()), "JPH0123456789 X".charAt(below(15)));
        }
        if (below(8) == 0) {
            text.setLength(below(text.length()));
        }
        return text.toString();
    }

    private static int juror() {
        return below(12) == 0 ? below(9) - 1 : below(6);
    }

    private static int number(int most) {
        return below(10) == 0 ? below(most + 4) - 2 : below(most + 1);
    }

    private static void newText(int run, HungryJury x, Model m) {
        Due.is(run + " wipe", x.wipe(), m.wipe());
        String text = someText();
        for (int i = 0; i < text.length(); i++) {
            Due.is(run + " write", x.write(text.charAt(i)), m.write(text.charAt(i)));
        }
        Due.is(run + " fault of " + m.text, x.fault(), Model.faultOf(m.text));
        Due.is(run + " jury of " + m.text, x.jury(), m.jury());
    }

    private static void doSome(String at, HungryJury x, Model m) {
        int i = juror();
        switch (below(9)) {
            case 0:
            case 1:
            case 2:
                Due.is(at + "hour", x.hour(), m.hour());
                break;
            case 3:
                Due.is(at + "argue " + i, x.argue(i), m.act(1, i));
                break;
            case 4:
                Due.is(at + "feed " + i, x.feed(i), m.act(2, i));
                break;
            case 5:
                if (below(3) == 0) {
                    Due.is(at + "die " + i, x.die(i), m.act(3, i));
                }
                break;
            case 6:
                Due.is(at + "toss " + i, x.toss(i), m.act(4, i));
                break;
            case 7:
                Due.is(at + "undo", x.undo(), m.undo());
                break;
            default:
                int slot = number(1);
                if (below(2) == 0) {
                    Due.is(at + "keep " + slot, x.keep(slot), m.keep(slot));
                } else {
                    Due.is(at + "again " + slot, x.again(slot), m.again(slot));
                }
                break;
        }
    }

    private static void askOfVerdicts(String at, HungryJury x, Model m) {
        int v = number(1);
        int i = juror();
        int n = number(9);
        boolean row = below(2) == 0;
        switch (below(7)) {
            case 0:
                Due.is(at + "ahead " + n, x.ahead(n), m.ahead(n));
                break;
            case 1:
                Due.is(at + "end " + v, x.end(v), m.end(v));
                break;
            case 2:
                Due.is(at + "gives " + i, x.gives(i), m.gives(i));
                break;
            case 3:
                Due.is(at + "toFeed " + v, x.toFeed(v), m.fewest(2, v));
                break;
            case 4:
                Due.is(at + "strike " + v, x.strike(v), m.fewest(3, v));
                break;
            case 5:
                Due.is(at + "toMove " + v + row, x.toMove(v, row), m.toMove(v, row));
                break;
            default:
                int doings = number(4);
                int told = 0;
                for (int k = 0; k < doings; k++) {
                    int doing = number(4);
                    told = told * 100 + Math.max(0, doing * 10 + (doing == 0 ? below(9) / 8 : Math.max(0, juror())));
                }
                told = below(12) == 0 ? told - 1 : below(12) == 0 ? told * 10 : told;
                Due.is(at + "judge " + doings + " " + told, x.judge(doings, told), m.judge(doings, told));
                break;
        }
    }

    private static void askOfChances(String at, HungryJury x, Model m) {
        int i = juror();
        int j = juror();
        int what = number(1);
        boolean upper = below(2) == 0;
        switch (below(7)) {
            case 0:
                Due.is(at + "share " + i + upper, x.share(i, upper), m.share(i, upper));
                break;
            case 1:
                Due.is(at + "rests " + i + j + what, x.rests(i, j, what), m.rests(i, j, what));
                break;
            case 2:
                int v = below(3) == 0 ? 9 : what;
                int tenths = number(10);
                Due.is(at + "coins " + v + " " + tenths + upper, x.coins(v, tenths, upper),
                    m.coins(v, tenths, upper));
                break;
            case 3:
                long seed = (long) below(1 << 30) * below(1 << 30) - below(9);
                Due.is(at + "seed " + seed, x.seed(seed), m.seed(seed));
                break;
            case 4:
                int times = number(20);
                Due.is(at + "assizes " + times, x.assizes(times), m.assizes(times));
                break;
            case 5:
                int n = number(9);
                Due.is(at + "see " + i + " " + n + what, x.see(i, n, what), m.see(i, n, what));
                break;
            default:
                int which = number(2);
                Due.is(at + "first " + which, x.first(which), m.first(which));
                if (below(6) == 0) {
                    Due.is(at + "unsee", x.unsee(), m.unsee());
                }
                break;
        }
    }

    private static void compareAll(String at, HungryJury x, Model m) {
        for (int what = -1; what <= 9; what++) {
            Due.is(at + "count " + what, x.count(what), m.count(what));
        }
        int i = juror();
        int what = number(5);
        Due.is(at + "juror " + i + " " + what, x.juror(i, what), m.juror(i, what));
    }

    private static void run(int run) {
        HungryJury x = new HungryJury();
        Model m = new Model();
        if (below(10) > 0) {
            newText(run, x, m);
        }
        for (int call = 0; call < CALLS && Due.allWell(); call++) {
            String at = "run " + run + ", call " + call + " (" + m.text + "): ";
            int sort = below(100);
            if (sort < 45) {
                doSome(at, x, m);
            } else if (sort < 70) {
                askOfVerdicts(at, x, m);
            } else if (sort < 96) {
                askOfChances(at, x, m);
            } else if (sort < 99) {
                compareAll(at, x, m);
                call += 12;
            } else {
                newText(run, x, m);
                call += 60;
            }
        }
    }

    public static void main(String[] args) {
        for (int run = 0; run < RUNS && Due.allWell(); run++) {
            run(run);
        }
        Due.finish();
    }
}
