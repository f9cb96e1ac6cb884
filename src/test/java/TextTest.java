/** Promises 1 to 6: a new object, write, wipe, fault, jury, juror. */
final class TextTest {
    private static void newObject() {
        HungryJury x = new HungryJury();
        int[] due = {0, 0, 1, 0, 0, 0, 9, 0, 0};
        for (int what = 0; what <= 8; what++) {
            Due.is("new: count " + what, x.count(what), due[what]);
        }
        Due.is("new: fault", x.fault(), 0);
        Due.is("new: seed", x.seed(7), 0);
        Due.is("new: undo", x.undo(), HungryJury.STATE);
        Due.is("new: again 0", x.again(0), HungryJury.STATE);
        Due.is("new: again 1", x.again(1), HungryJury.STATE);
        Due.is("new: juror 0", x.juror(0, 0), HungryJury.UNKNOWN);
        Due.is("new: end", x.end(0), HungryJury.NONE);
    }

    private static void write() {
        HungryJury x = new HungryJury();
        Due.is("write 0", x.write(0), 1);
        Due.is("write 255", x.write(255), 2);
        Due.is("write -1", x.write(-1), HungryJury.OUTSIDE);
        Due.is("write 256", x.write(256), HungryJury.OUTSIDE);
        Due.is("write least", x.write(Integer.MIN_VALUE), HungryJury.OUTSIDE);
        Due.is("write most", x.write(Integer.MAX_VALUE), HungryJury.OUTSIDE);
        Due.is("length", x.count(0), 2);
        for (int i = 3; i <= 56; i++) {
            Due.is("write " + i, x.write('J'), i);
        }
        Due.is("write 57", x.write('J'), HungryJury.FULL);
        Due.is("outside goes ahead of full", x.write(256), HungryJury.OUTSIDE);
        Due.is("full length", x.count(0), 56);
    }

    private static void wipe() {
        HungryJury x = Due.written("J1P");
        Due.is("wipe", x.wipe(), 3);
        Due.is("wiped", x.count(0), 0);
        Due.is("wipe again", x.wipe(), 0);
        Due.write(x, "J2P110");
        Due.is("written anew", x.fault(), HungryJury.NONE);
        x.jury();
        x.wipe();
        Due.is("the jury stays", x.count(1), 1);
    }

    private static void fault(String text, int due) {
        HungryJury x = Due.written(text);
        Due.is("fault of " + text, x.fault(), due);
        Due.is("fault of " + text + " once more", x.fault(), due);
    }

    private static void faults() {
        int none = HungryJury.NONE;
        fault("", 0);
        fault("J", 1);
        fault("j1", 0);
        fault("J0", 1);
        fault("J7", 1);
        fault("J1", none);
        fault("J6", none);
        fault("J1X", 2);
        fault("J1H", 2);
        fault("J1P", 3);
        fault("J1P2", 3);
        fault("J1P1", 4);
        fault("J1P10", 4);
        fault("J1P1:0", 4);
        fault("J1P01", 5);
        fault("J1P014", 5);
        fault("J1P01/", 5);
        fault("J1P013", none);
        fault("J1P199", 5);
        fault("J1P190X", 6);
        fault("J1P190H", 6);
        fault("J1P190P190H", 11);
        fault("J1P190P190H2", 11);
        fault("J1P190P190H0", 12);
        fault("J1P190P190H00", 12);
        fault("J1P190P190H02", 12);
        fault("J1P190P190H01", none);
        fault("J1P190P190H01H0", 14);
        fault("J1P190P190H01H10", none);
        fault("J1P190P190H01H10H", 16);
        fault("J1P190P190H01H10P190H0", 22);
        fault("J1P190P190H01H10P190H01", 22);
        fault("J1P190P190H01H10P190H02", none);
        fault("J1P190P190P190H01H02H0", 21);
        fault("J1P190P190P190H01H02H12", none);
        fault("J1P190P190P190P190P190P190", none);
        fault("J1P190P190P190P190P190P190P", 26);
        fault("J1P190P190P190P190P190P190H54H45P", 32);
        // 56 letters: six jurors and ten pairs; the length is set aside, but what is wanting still is.
        String full = "J6P190P190P190P190P190P190H01H02H03H04H05H10H12H13H14H15";
        Due.is("letters", full.length(), 56);
        fault(full, none);
        fault(full.substring(0, 55), 55);
        fault("J6P190P190P190P190P190H01H02H03H04H10H12H13H14H20H21P190", none);
        fault("J6P190P190P190P190P190H01H02H03H04H10H12H13H14H20H21H20H", 54);
    }

    private static void jury() {
        HungryJury x = Due.jury("J4P192P031H01");
        Due.is("jurors", x.count(1), 2);
        Due.is("need", x.count(2), 4);
        Due.is("the text stays", x.count(0), 13);
        x.hour();
        x.die(0);
        x.hour();
        x.see(1, 0, 0);
        x.seed(77);
        x.keep(0);
        x.keep(1);
        Due.is("jury anew", x.jury(), 2);
        Due.is("anew: hour", x.count(3), 0);
        Due.is("anew: there", x.count(4), 3);
        Due.is("anew: yes", x.count(5), 1);
        Due.is("anew: acts", x.count(7), 0);
        Due.is("anew: undo", x.undo(), HungryJury.STATE);
        Due.is("anew: hunger", x.juror(1, 3), 0);
        Due.is("anew: seen stays", x.count(8), 1);
        Due.is("anew: kept is gone", x.again(0), HungryJury.STATE);
        Due.is("anew: kept is gone too", x.again(1), HungryJury.STATE);
        Due.is("anew: the seed stays", x.seed(0), 77);
        Due.rewrite(x, "J2");
        Due.is("nobody", x.jury(), 0);
        Due.is("nobody: need", x.count(2), 2);
        Due.is("nobody: there", x.count(4), 0);
    }

    private static void juryRefused() {
        HungryJury x = Due.jury("J4P192P031H01");
        x.hour();
        x.keep(1);
        Due.rewrite(x, "J3P110P110H1");
        String before = Due.stateOf(x);
        Due.is("jury of a fault", x.jury(), HungryJury.STATE);
        Due.same("what a refused jury leaves", Due.stateOf(x), before);
        Due.is("kept stays", x.again(1), 1);
        x.wipe();
        Due.is("jury of nothing", x.jury(), HungryJury.STATE);
        Due.is("still two", x.count(1), 2);
    }

    private static void juryAgainOfOtherHeeds() {
        HungryJury x = Due.jury("J4P190P190H01H10");
        Due.rewrite(x, "J4P190P190P010H02");
        Due.is("three", x.jury(), 3);
        Due.is("heeds of 0", x.juror(0, 4), 4);
        Due.is("heeds of 1", x.juror(1, 4), 0);
        Due.rewrite(x, "J4P090P190");
        Due.is("two again", x.jury(), 2);
        Due.is("for no now", x.juror(0, 0), 0);
        Due.is("who is for yes", x.count(5), 2);
    }

    private static void juror() {
        HungryJury x = Due.jury("J4P192P031P110P013H01H02H10");
        int[][] due = {{1, 9, 2, 0, 6, 1}, {0, 3, 1, 0, 1, 1}, {1, 1, 0, 0, 0, 1}, {0, 1, 3, 0, 0, 1}};
        for (int i = 0; i < 4; i++) {
            for (int what = 0; what <= 5; what++) {
                Due.is("juror " + i + " " + what, x.juror(i, what), due[i][what]);
            }
        }
        Due.is("no juror -1", x.juror(-1, 0), HungryJury.UNKNOWN);
        Due.is("no juror 4", x.juror(4, 0), HungryJury.UNKNOWN);
        Due.is("unknown goes ahead of outside", x.juror(4, 9), HungryJury.UNKNOWN);
        Due.is("no what -1", x.juror(0, -1), HungryJury.OUTSIDE);
        Due.is("no what 6", x.juror(0, 6), HungryJury.OUTSIDE);
        x.hour();
        x.die(0);
        Due.is("the dead one is not there", x.juror(0, 5), 0);
        Due.is("the dead one is still told of", x.juror(0, 1), 9);
    }

    public static void main(String[] args) {
        newObject();
        write();
        wipe();
        faults();
        jury();
        juryRefused();
        juryAgainOfOtherHeeds();
        juror();
        Due.finish();
    }
}
