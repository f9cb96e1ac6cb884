/** Counts the checks of one test and tells those that fail; and makes juries of texts. */
final class Due {
    private static int checks = 0;
    private static int wrong = 0;
    private static int ofSentence = 1;
    private static String sentence = "";

    private Due() {
    }

    /** Names the sentence of the document, and where it stands, that the checks behind it are for. */
    static void sentence(String where, String words) {
        that("there is a check", ofSentence > 0);
        ofSentence = 0;
        sentence = where + ", \"" + words + "\": ";
    }

    static void is(String what, long got, long want) {
        count();
        if (got != want) {
            tell(what + " answered " + got + ", due is " + want);
        }
    }

    static void same(String what, String got, String want) {
        count();
        if (!got.equals(want)) {
            tell(what + " is " + got + ", due is " + want);
        }
    }

    static void that(String what, boolean holds) {
        count();
        if (!holds) {
            tell(what + " doesn't hold");
        }
    }

    private static void count() {
        checks++;
        ofSentence++;
    }

    private static void tell(String fault) {
        wrong++;
        if (wrong <= 40) {
            System.out.println(sentence + fault);
        }
    }

    static boolean allWell() {
        return wrong == 0;
    }

    /** To be called last: ends the run with 1, if a check failed or none was made. */
    static void finish() {
        that("there is a check", ofSentence > 0);
        System.out.println(checks + " checks, " + wrong + " wrong");
        if (wrong != 0 || checks == 0) {
            System.exit(1);
        }
    }

    static HungryJury written(String text) {
        HungryJury x = new HungryJury();
        write(x, text);
        return x;
    }

    static void write(HungryJury x, String text) {
        for (int i = 0; i < text.length(); i++) {
            x.write(text.charAt(i));
        }
    }

    static void rewrite(HungryJury x, String text) {
        x.wipe();
        write(x, text);
    }

    /** A jury of a text; the text must be one. */
    static HungryJury jury(String text) {
        HungryJury x = written(text);
        that("jury of " + text, x.jury() >= 0);
        return x;
    }

    static void hours(HungryJury x, int n) {
        for (int i = 0; i < n; i++) {
            x.hour();
        }
    }

    /** All that can be read of an object without changing it, THE SEED aside. */
    static String stateOf(HungryJury x) {
        StringBuilder told = new StringBuilder();
        for (int what = 0; what <= 8; what++) {
            told.append(x.count(what)).append(' ');
        }
        told.append('f').append(x.fault());
        for (int juror = 0; juror < x.count(1); juror++) {
            told.append(" |");
            for (int what = 0; what <= 5; what++) {
                told.append(' ').append(x.juror(juror, what));
            }
        }
        told.append(" s").append(x.first(0)).append(' ').append(x.first(1)).append(' ').append(x.first(2));
        return told.toString();
    }
}
