/** The sentences on THE TEXT and THE JURY that name a boundary, each with a test of its own; promises 1 to 6. */
final class BoundsOfTextTest {
    private static final String SIX = "J6P190P190P190P190P190P190";
    private static final String FULL_OF_PARTS = SIX + "H01H02H03H04H05H10H12H13H14H15";

    private static int faultOf(String text) {
        return Due.written(text).fault();
    }

    /** Behind a beginning these letters can come; any other of the 256 is the fault, whatever comes behind it. */
    private static void next(String start, String allowed) {
        for (int letter = 0; letter <= 255; letter++) {
            String at = "fault of " + start + " and letter " + letter;
            HungryJury x = Due.written(start);
            x.write(letter);
            int fault = x.fault();
            if (allowed.indexOf(letter) >= 0) {
                Due.that(at + " is not at that letter",
                    fault == HungryJury.NONE || fault == start.length() + 1);
            } else {
                Due.is(at, fault, start.length());
                Due.write(x, "1P110H01");
                Due.is(at + " and more", x.fault(), start.length());
            }
        }
    }

    private static void textOf56() {
        Due.sentence("Terms 1", "THE TEXT is letters (56 at most).");
        for (int letter : new int[] {0, 'J', 255}) {
            HungryJury x = new HungryJury();
            Due.is("letters of the empty text", x.count(0), 0);
            for (int n = 1; n <= 56; n++) {
                Due.is("write, time " + n, x.write(letter), n);
            }
            Due.is("letters of the full text", x.count(0), 56);
            Due.is("write, time 57", x.write(letter), HungryJury.FULL);
            Due.is("letters still", x.count(0), 56);
        }
        Due.is("the 56th letter is read: fault", faultOf(FULL_OF_PARTS), HungryJury.NONE);
        Due.is("its last figure wrong: fault", faultOf(FULL_OF_PARTS.substring(0, 55) + "1"), 55);
    }

    private static void need() {
        Due.sentence("Terms 1", "A JURY is a TEXT: J, NEED (1 to 6), then PARTS, none or more;");
        next("", "J");
        next("J", "123456");
        for (int need = 1; need <= 6; need++) {
            HungryJury x = Due.jury("J" + need);
            Due.is("NEED of J" + need, x.count(2), need);
            Due.is("JURORS of none", x.count(1), 0);
            next("J" + need, "P");
        }
    }

    private static void sixJurors() {
        Due.sentence("Terms 1", "JURORS (6 at most) are numbered as they are told:");
        HungryJury x = Due.jury("J1P110P120P130P140P150P160");
        Due.is("jurors", x.count(1), 6);
        for (int i = 0; i < 6; i++) {
            Due.is("STUBBORN of the one told at " + i, x.juror(i, 1), i + 1);
        }
        next("J1P110P120P130P140P150", "PH");
        next("J1P110P120P130P140P150P160", "H");
        next("J1P110P120P130P140P150P160H05", "H");
    }

    private static void partOfJuror() {
        Due.sentence("Terms 1",
            "Pvsk a JUROR that is for v (0 NO, 1 YES), STUBBORN s (1 to 9), of KIND k: "
            + "0 PLAIN, 1 STOUT, 2 FIGS, 3 ASLEEP");
        for (String start : new String[] {"J1", "J4P190P190", "J6P190P190P190P190P190"}) {
            next(start + "P", "01");
            next(start + "P0", "123456789");
            next(start + "P1", "123456789");
            next(start + "P01", "0123");
            next(start + "P19", "0123");
        }
    }

    private static void partOfPair() {
        Due.sentence("Terms 1",
            "Hij JUROR i HEEDS another one j (both told ahead; each such pair, in this order, once)");
        next("J1P190", "P");
        next("J1P190P190", "PH");
        next("J1P190P190H", "01");
        next("J1P190P190H0", "1");
        next("J1P190P190H1", "0");
        next("J1P190P190P190H", "012");
        next("J1P190P190P190H0", "12");
        next("J1P190P190P190H1", "02");
        next("J1P190P190P190H2", "01");
        next(SIX + "H", "012345");
        next(SIX + "H0", "12345");
        next(SIX + "H5", "01234");
    }

    private static void eachPairOnce() {
        Due.sentence("Terms 1", "each such pair, in this order, once");
        next("J1P190P190H01", "PH");
        next("J1P190P190H01H", "1");
        next("J1P190P190H01H1", "0");
        next("J1P190P190H01H10", "P");
        next("J1P190P190H01H10P190", "PH");
        next("J1P190P190H01H10P190H", "012");
        next("J1P190P190H01H10P190H0", "2");
        next("J1P190P190P190H21H", "012");
        next("J1P190P190P190H21H2", "0");
        next("J1P190P190P190H21H1", "02");
        next("J1P190P190P190H21H20H", "01");
        next(SIX + "H01H02H03H04H05H", "12345");
        next(SIX + "H01H02H03H04H05H5", "01234");
        next(SIX + "H50H51H53H54H5", "2");
        next(SIX + "H50H51H53H54H52H", "01234");
    }

    private static void faultAtTheEnd() {
        Due.sentence("Terms 1", "its length, if it is only not at its end; NONE: none.");
        for (int length = 0; length <= 56; length++) {
            boolean isAtAnEnd = length > 1 && (length <= 26 ? length % 4 == 2 : length % 3 == 2);
            String text = FULL_OF_PARTS.substring(0, length);
            Due.is("fault of the first " + length + " letters", faultOf(text),
                isAtAnEnd ? HungryJury.NONE : length);
        }
    }

    private static void faultOfTheFull() {
        Due.sentence("Terms 1", "(its length set aside)");
        // Full, and not at its end: no letter can come, but by its letters it could go on.
        String full = "J6P190P190P190P190P190H01H02H03H04H10H12H13H14H20H21H23";
        Due.is("letters ahead", full.length(), 55);
        Due.is("fault of the full text with P", faultOf(full + "P"), 56);
        Due.is("fault of the full text with H", faultOf(full + "H"), 56);
        Due.is("fault of the full text with J", faultOf(full + "J"), 55);
        HungryJury x = Due.written(full + "P");
        Due.is("no more letters", x.write('0'), HungryJury.FULL);
        Due.is("nor a jury", x.jury(), HungryJury.STATE);
        Due.is("fault of 56 letters J", faultOf("J".repeat(56)), 1);
    }

    private static void firstFault() {
        Due.sentence("Terms 1",
            "FAULT: the place (from 0 on) of the first letter by which THE TEXT can be no JURY, "
            + "whatever came behind it");
        String text = "J3P190P051H01H10P192";
        for (int place = 0; place < text.length(); place++) {
            for (int later = place; later < text.length(); later++) {
                StringBuilder wrong = new StringBuilder(text);
                wrong.setCharAt(place, 'x');
                wrong.setCharAt(later, 'x');
                Due.is("fault of " + wrong, faultOf(wrong.toString()), place);
            }
        }
    }

    private static void atFirst() {
        Due.sentence("Terms 1", "At first NEED is 1, there is nobody.");
        HungryJury x = new HungryJury();
        int[] due = {0, 0, 1, 0, 0, 0, 9, 0, 0};
        for (int what = 0; what <= 8; what++) {
            Due.is("count " + what, x.count(what), due[what]);
        }
    }

    private static void newObject() {
        Due.sentence("Promise 1", "Nobody.");
        for (int i = -1; i <= 6; i++) {
            Due.is("juror " + i + " of a new object", new HungryJury().juror(i, 5), HungryJury.UNKNOWN);
        }
        HungryJury x = new HungryJury();
        Due.is("the empty text's fault", x.fault(), 0);
        Due.is("the seed", x.seed(0), 0);
        Due.is("slot 0", x.again(0), HungryJury.STATE);
        Due.is("slot 1", x.again(1), HungryJury.STATE);
        Due.is("undo", x.undo(), HungryJury.STATE);
        Due.is("unsee", x.unsee(), 0);
        Due.is("wipe", x.wipe(), 0);
        Due.is("an hour of nobody", x.hour(), 0);
        Due.is("another object is not touched by it", new HungryJury().count(3), 0);
    }

    private static void anew() {
        Due.sentence("Terms 1",
            "THE HOUR is 0, nobody has HUNGER, all are there, when THE JURY is made anew.");
        HungryJury x = Due.jury("J5P191P090P190P092P193P040");
        Due.hours(x, 11);
        x.argue(3);
        x.toss(0);
        for (int i = 0; i < 6; i++) {
            x.die(i);
        }
        x.hour();
        Due.is("jury anew", x.jury(), 6);
        Due.is("the hour", x.count(3), 0);
        Due.is("all are there", x.count(4), 63);
        Due.is("who is for YES", x.count(5), 1 + 4 + 16);
        for (int i = 0; i < 6; i++) {
            Due.is("hunger of " + i, x.juror(i, 3), 0);
            Due.is("stubborn of " + i, x.juror(i, 1), i == 5 ? 4 : 9);
        }
    }

    private static void write() {
        Due.sentence("Promise 2", "A letter (0 to 255) comes behind THE TEXT: how long it is. OUTSIDE;");
        for (int letter = 0; letter <= 255; letter++) {
            HungryJury x = new HungryJury();
            Due.is("write " + letter, x.write(letter), 1);
            Due.is("fault of letter " + letter, x.fault(), letter == 'J' ? 1 : 0);
        }
        Refused.beyond("write", HungryJury::write, 0, 255, HungryJury.OUTSIDE);
        Refused.is("write a J of more than 8 bits", Start::anew, x -> x.write('J' + 256), HungryJury.OUTSIDE);
    }

    private static void writeToTheFull() {
        Due.sentence("Promise 2", "FULL: there are 56.");
        HungryJury x = Due.written(FULL_OF_PARTS.substring(0, 55));
        Due.is("write one more behind 55", x.write('5'), 56);
        for (int letter : new int[] {0, 'J', 'P', 255}) {
            Refused.is("write " + letter, () -> Due.written(FULL_OF_PARTS), y -> y.write(letter),
                HungryJury.FULL);
        }
        Due.is("the 57th", x.write('P'), HungryJury.FULL);
        Due.is("the text is as it was: fault", x.fault(), HungryJury.NONE);
        x.wipe();
        Due.is("wiped, there is room", x.write('J'), 1);
    }

    private static void wipe() {
        Due.sentence("Promise 3", "THE TEXT is empty: how long it was.");
        Due.is("wipe of the empty", new HungryJury().wipe(), 0);
        for (int length = 1; length <= 56; length++) {
            HungryJury x = Due.written(FULL_OF_PARTS.substring(0, length));
            Due.is("wipe of " + length, x.wipe(), length);
            Due.is("letters left", x.count(0), 0);
            Due.is("fault", x.fault(), 0);
            Due.is("wipe again", x.wipe(), 0);
            Due.is("the first letter anew", x.write('J'), 1);
            Due.is("no old letter comes again: fault", x.fault(), 1);
        }
    }

    private static void fault() {
        Due.sentence("Promise 4", "FAULT; NONE.");
        Due.is("fault of the empty", faultOf(""), 0);
        Due.is("fault of J", faultOf("J"), 1);
        Due.is("fault of the least jury", faultOf("J1"), HungryJury.NONE);
        Due.is("fault of the longest", faultOf(FULL_OF_PARTS), HungryJury.NONE);
        HungryJury x = Due.written("J1P19");
        String before = Refused.wholeOf(Due.written("J1P19"));
        Due.is("fault", x.fault(), 5);
        Due.is("fault once more", x.fault(), 5);
        Due.same("asked, nothing is changed", Refused.wholeOf(x), before);
    }

    private static void jury() {
        Due.sentence("Promise 5", "THE TEXT (that stays as it is) is THE JURY (THE ROW of ACTS is empty, "
            + "what was kept is gone; SEEN, THE SEED stay): how many JURORS.");
        StringBuilder text = new StringBuilder("J2");
        for (int jurors = 0; jurors <= 6; jurors++) {
            HungryJury x = Start.full();
            Due.rewrite(x, text.toString());
            Due.is("jury of " + text, x.jury(), jurors);
            Due.is("letters", x.count(0), text.length());
            Due.is("jurors", x.count(1), jurors);
            Due.is("all are there", x.count(4), (1 << jurors) - 1);
            Due.is("the full row of acts is empty", x.count(7), 0);
            Due.is("nothing to undo", x.undo(), HungryJury.STATE);
            Due.is("slot 0 is gone", x.again(0), HungryJury.STATE);
            Due.is("slot 1 is gone", x.again(1), HungryJury.STATE);
            Due.is("seen stays", x.count(8), 6);
            Due.is("the seed stays", x.seed(0), Long.MIN_VALUE);
            Due.is("nobody is for what those of old were for", x.count(5), 0);
            for (int i = 0; i < jurors; i++) {
                Due.is("nor heeds whom they heeded", x.juror(i, 4), 0);
                Due.is("nor is as stubborn", x.juror(i, 1), 1);
            }
            text.append("P010");
        }
    }

    private static void juryOfAFault() {
        Due.sentence("Promise 5", "STATE: a FAULT.");
        Refused.is("jury of no text", Start::anew, HungryJury::jury, HungryJury.STATE);
        for (String text : new String[] {"", "J", "P", "J0", "J7", "J1P", "J1P19", "J1P190H", "J1P190P190H01H01",
            SIX + "P190", FULL_OF_PARTS.substring(0, 55), FULL_OF_PARTS.substring(0, 55) + "1"}) {
            Refused.is("jury of " + text, () -> {
                HungryJury x = Start.busy();
                Due.rewrite(x, text);
                return x;
            }, HungryJury::jury, HungryJury.STATE);
        }
    }

    private static void juror() {
        Due.sentence("Promise 6", "Of a JUROR what it is for (what = 0), how STUBBORN it is (1), KIND (2), "
            + "HUNGER (3), whom it HEEDS (4: bits), 1 if it is there (5).");
        HungryJury x = Due.jury("J6P010P193P090P090P190P190H10H12H13H14H15H01");
        int[][] due = {{0, 1, 0, 0, 2, 1}, {1, 9, 3, 0, 61, 1}, {0, 9, 0, 0, 0, 1}};
        for (int i = 0; i < due.length; i++) {
            for (int what = 0; what <= 5; what++) {
                Due.is("juror " + i + " " + what, x.juror(i, what), due[i][what]);
            }
        }
        Due.hours(x, 25);
        x.die(1);
        Due.is("the greatest hunger", x.juror(0, 3), 20);
        Due.is("a dead one", x.juror(1, 5), 0);
        Due.is("whom the dead one heeds", x.juror(1, 4), 61);
    }

    private static void jurorUnknown() {
        Due.sentence("Promise 6", "UNKNOWN; OUTSIDE.");
        Refused.beyond("juror", (x, i) -> x.juror(i, 0), 0, 5, HungryJury.UNKNOWN);
        Refused.beyond("juror, and what is wrong too", (x, i) -> x.juror(i, 6), 0, 5, HungryJury.UNKNOWN);
        Refused.beyond("juror 0 of one, what", () -> Due.jury("J1P190"), (x, what) -> x.juror(0, what), 0, 5,
            HungryJury.OUTSIDE);
        Refused.beyond("juror 5 of six, what", Start::full, (x, what) -> x.juror(5, what), 0, 5,
            HungryJury.OUTSIDE);
        Refused.beyond("juror 5, a dead one, what", Start::busy, (x, what) -> x.juror(5, what), 0, 5,
            HungryJury.OUTSIDE);
    }

    public static void main(String[] args) {
        textOf56();
        need();
        sixJurors();
        partOfJuror();
        partOfPair();
        eachPairOnce();
        faultAtTheEnd();
        faultOfTheFull();
        firstFault();
        atFirst();
        newObject();
        anew();
        write();
        writeToTheFull();
        wipe();
        fault();
        jury();
        juryOfAFault();
        juror();
        jurorUnknown();
        Due.finish();
    }
}
