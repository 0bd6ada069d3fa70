/** Promises 8 to 13: trains that are put in, what they are, slip, silence, EMERGENCY and ticks. */
public final class TrainTest {
    private static final Check check = new Check("TrainTest");

    public static void main(String[] args) {
        promise8PutsTrainsIn();
        promise8KeepsTheWayOfOthers();
        promise8KeepsOffClosedZones();
        promise9TellsWhatTrainIs();
        promise10TellsSlip();
        promise11SilentKeepsReportAndLimit();
        promise11SilentHoldsOthersBack();
        promise12Emergency();
        promise12EmergencyIsNotTakenBack();
        promise13LetsTicksGoBy();
        promise13GoesByTheReports();
        promise13BrakesAtTheLimit();
        promise13MeetsBeacons();
        check.end();
    }

    private static void promise8PutsTrainsIn() {
        HeadwayDeep x = new HeadwayDeep();
        check.bad("train(99)", () -> x.train(99));
        check.bad("train(5001)", () -> x.train(5001));
        check.same("train(1000)", x.train(1000), 0);
        check.notNow("train(1119)", () -> x.train(1119));
        check.notNow("train(881)", () -> x.train(881));
        check.notNow("train(1000) again", () -> x.train(1000));
        check.noSuch("trainIs(1, 0)", () -> x.trainIs(1, 0));
        check.same("train(1120)", x.train(1120), 1);
        check.same("LIMIT of the one behind", x.trainIs(0, 4), 1000);
        check.same("train(880)", x.train(880), 2);
        check.same("LIMIT of the one put in", x.trainIs(2, 4), 880);
        check.same("train(100)", x.train(100), 3);
        check.same("LIMIT of the hindmost", x.trainIs(3, 4), 760);
        check.same("train(5000)", x.train(5000), 4);
        check.same("LIMIT of the foremost", x.trainIs(4, 4), 5000);
        check.notNow("a 6th train", () -> x.train(3000));
        check.bad("a 6th train(99)", () -> x.train(99));
    }

    private static void promise8KeepsTheWayOfOthers() {
        HeadwayDeep x = new HeadwayDeep();
        x.train(100);
        x.pass(5);
        // The HIGH is 120 and the WAY TO STOP of 5 is 20.
        check.notNow("train(259)", () -> x.train(259));
        x.silent(0, true);
        check.notNow("train(260) ahead of a SILENT one", () -> x.train(260));
        x.silent(0, false);
        check.same("train(260)", x.train(260), 1);
        check.same("LIMIT of the one behind", x.trainIs(0, 4), 140);
        x.silent(0, true);
        check.same("train(380) ahead of a SILENT one's LIMIT", x.train(380), 2);
        check.same("LIMIT of a SILENT one", x.trainIs(0, 4), 140);

        HeadwayDeep y = new HeadwayDeep();
        y.train(1000);
        y.pass(2);
        // The LOW is 1001, the REPORT still 1000.
        check.same("LOW", y.trainIs(0, 1), 1001);
        check.notNow("train(881) by the REPORT", () -> y.train(881));
        check.same("train(880) by the REPORT", y.train(880), 1);
        check.same("LIMIT by the REPORT", y.trainIs(1, 4), 880);
        y.pass(1);
        check.same("LIMIT a tick on", y.trainIs(1, 4), 881);
    }

    private static void promise8KeepsOffClosedZones() {
        HeadwayDeep x = new HeadwayDeep();
        x.zone(500, 600);
        x.close(0, true);
        check.notNow("train(500)", () -> x.train(500));
        check.notNow("train(700)", () -> x.train(700));
        check.notNow("train(550)", () -> x.train(550));
        check.same("train(701)", x.train(701), 0);
        check.same("train(499)", x.train(499), 1);
        check.same("LIMIT ahead of the zone", x.trainIs(1, 4), 500);
        check.same("LIMIT behind the zone", x.trainIs(0, 4), 5000);
        x.close(0, false);
        check.same("LIMIT with it opened", x.trainIs(1, 4), 581);
    }

    private static void promise9TellsWhatTrainIs() {
        HeadwayDeep x = new HeadwayDeep();
        x.train(300);
        int[] due = {300, 300, 300, 0, 5000, 0, 0, HeadwayDeep.NONE, HeadwayDeep.NONE, 0, 0};
        for (int what = 0; what <= 10; what++) {
            check.same("a new trainIs(0, " + what + ")", x.trainIs(0, what), due[what]);
        }
        check.noSuch("trainIs(1, 11)", () -> x.trainIs(1, 11));
        check.noSuch("trainIs(-1, 0)", () -> x.trainIs(-1, 0));
        check.bad("trainIs(0, 11)", () -> x.trainIs(0, 11));
        check.bad("trainIs(0, -1)", () -> x.trainIs(0, -1));
        x.slip(0, 1);
        x.pass(4);
        int[] gone = {314, 306, 314, 4, 5000, 0, 0};
        for (int what = 0; what < gone.length; what++) {
            check.same("trainIs(0, " + what + ") with slip", x.trainIs(0, what), gone[what]);
        }
        x.silent(0, true);
        x.emergency(0);
        check.same("EMERGENCY", x.trainIs(0, 5), 1);
        check.same("SILENT", x.trainIs(0, 6), 1);
    }

    private static void promise10TellsSlip() {
        HeadwayDeep x = new HeadwayDeep();
        check.noSuch("slip(0, 2)", () -> x.slip(0, 2));
        x.train(1000);
        check.bad("slip(0, 2)", () -> x.slip(0, 2));
        check.bad("slip(0, -2)", () -> x.slip(0, -2));
        check.same("slip(0, -1)", x.slip(0, -1), 0);
        x.pass(1);
        check.same("PLACE with slip -1", x.trainIs(0, 0), 1000);
        check.same("LOW with slip -1", x.trainIs(0, 1), 1000);
        check.same("HIGH with slip -1", x.trainIs(0, 2), 1002);
        check.same("slip(0, 1)", x.slip(0, 1), -1);
        x.pass(1);
        check.same("PLACE with slip 1", x.trainIs(0, 0), 1003);
        check.same("slip(0, 0)", x.slip(0, 0), 1);
        x.pass(1);
        check.same("PLACE with slip 0", x.trainIs(0, 0), 1006);
        check.same("HIGH", x.trainIs(0, 2), 1009);

        HeadwayDeep y = new HeadwayDeep();
        y.train(5000);
        y.slip(0, 1);
        y.pass(9);
        check.same("PLACE of one at rest with slip", y.trainIs(0, 0), 5000);
    }

    private static void promise11SilentKeepsReportAndLimit() {
        HeadwayDeep x = new HeadwayDeep();
        check.noSuch("silent(0, true)", () -> x.silent(0, true));
        x.train(1000);
        x.train(500);
        x.pass(3);
        check.same("LIMIT of the one behind", x.trainIs(1, 4), 881);
        check.same("silent(0, true)", x.silent(0, true), false);
        check.same("silent(0, true) again", x.silent(0, true), true);
        check.same("silent(1, true)", x.silent(1, true), false);
        check.same("silent(1, false)", x.silent(1, false), true);
        x.pass(2);
        check.same("LIMIT behind a SILENT one", x.trainIs(1, 4), 881);
        check.same("silent(0, false)", x.silent(0, false), true);
        check.same("LIMIT until a tick goes by", x.trainIs(1, 4), 881);
        x.pass(1);
        check.same("LIMIT with the LOW ahead of that tick", x.trainIs(1, 4), 890);
        x.silent(1, true);
        x.pass(1);
        check.same("LIMIT of a SILENT one", x.trainIs(1, 4), 890);
    }

    private static void promise11SilentHoldsOthersBack() {
        HeadwayDeep x = new HeadwayDeep();
        x.train(1000);
        x.silent(0, true);
        x.pass(99);
        check.same("a SILENT one goes on", x.trainIs(0, 0) > 2000, true);
        check.notNow("train(881) behind the REPORT of a SILENT one", () -> x.train(881));
        check.same("train(880)", x.train(880), 1);
        x.pass(9);
        check.same("speed behind a SILENT one", x.trainIs(1, 3), 0);
        x.silent(0, false);
        x.pass(1);
        check.same("speed with it SILENT no more", x.trainIs(1, 3), 1);
    }

    private static void promise12Emergency() {
        HeadwayDeep x = new HeadwayDeep();
        check.noSuch("emergency(0)", () -> x.emergency(0));
        x.train(100);
        check.same("emergency(0) at rest", x.emergency(0), false);
        x.pass(1);
        check.same("speed behind that", x.trainIs(0, 3), 1);
        HeadwayDeep y = new HeadwayDeep();
        y.train(100);
        y.pass(1);
        check.same("emergency(0) at 1", y.emergency(0), true);
        x.pass(6);
        check.same("emergency(0) at 7", x.emergency(0), true);
        check.same("emergency(0) again", x.emergency(0), true);
        int[] speeds = {4, 1, 0, 1};
        int[] states = {1, 1, 0, 0};
        for (int i = 0; i < speeds.length; i++) {
            x.pass(1);
            check.same("speed in EMERGENCY", x.trainIs(0, 3), speeds[i]);
            check.same("EMERGENCY", x.trainIs(0, 5), states[i]);
        }
        x.pass(2);
        check.same("emergency(0) at 3", x.emergency(0), true);
        x.pass(1);
        check.same("EMERGENCY from 3", x.trainIs(0, 5), 0);
        check.same("emergency(0) behind it", x.emergency(0), false);
    }

    private static void promise12EmergencyIsNotTakenBack() {
        HeadwayDeep x = new HeadwayDeep();
        x.platform(900);
        x.train(100);
        x.pass(9);
        x.emergency(0);
        x.silent(0, true);
        x.silent(0, false);
        x.speed(20);
        x.stop(0, 0);
        x.pass(1);
        check.same("speed in EMERGENCY with a STOP", x.trainIs(0, 3), 6);
        check.notNow("hold(0, 1) while it moves", () -> x.hold(0, 1));
        check.same("EMERGENCY", x.trainIs(0, 5), 1);
        check.same("STOP", x.trainIs(0, 7), 0);
    }

    private static void promise13LetsTicksGoBy() {
        HeadwayDeep x = new HeadwayDeep();
        check.bad("pass(0)", () -> x.pass(0));
        check.bad("pass(100)", () -> x.pass(100));
        check.same("pass(1)", x.pass(1), 1);
        for (int i = 1; i <= 10; i++) {
            check.same("pass(99)", x.pass(99), 1 + 99 * i);
        }
        check.notNow("pass(9) to above 999", () -> x.pass(9));
        check.same("pass(8) to 999", x.pass(8), 999);
        check.notNow("pass(1) to 1000", () -> x.pass(1));
        check.bad("pass(0) at 999", () -> x.pass(0));
    }

    private static void promise13GoesByTheReports() {
        HeadwayDeep x = new HeadwayDeep();
        x.train(220);
        x.train(100);
        x.pass(2);
        // The one ahead goes at once, but its LOW is more only behind its second tick.
        check.same("LOW of the one ahead", x.trainIs(0, 1), 221);
        check.same("LIMIT of the one behind", x.trainIs(1, 4), 100);
        x.pass(1);
        check.same("LIMIT a tick on", x.trainIs(1, 4), 101);
        check.same("speed of the one behind", x.trainIs(1, 3), 0);
        x.pass(1);
        check.same("LIMIT two ticks on", x.trainIs(1, 4), 103);
        check.same("speed of the one behind, two ticks on", x.trainIs(1, 3), 1);
    }

    private static void promise13BrakesAtTheLimit() {
        HeadwayDeep x = new HeadwayDeep();
        x.train(4990);
        int[] speeds = {1, 2, 2, 1, 0};
        int[] highs = {4992, 4995, 4998, 5000, 5000};
        for (int i = 0; i < speeds.length; i++) {
            x.pass(1);
            check.same("speed ahead of the end", x.trainIs(0, 3), speeds[i]);
            check.same("HIGH ahead of the end", x.trainIs(0, 2), highs[i]);
        }
        check.same("isSafe()", x.isSafe(), true);
    }

    private static void promise13MeetsBeacons() {
        HeadwayDeep x = new HeadwayDeep();
        x.beacon(100);
        x.beacon(103);
        x.train(100);
        x.pass(1);
        check.same("HIGH from a beacon where it was", x.trainIs(0, 2), 102);
        x.pass(1);
        check.same("PLACE on a beacon", x.trainIs(0, 0), 103);
        check.same("LOW on a beacon", x.trainIs(0, 1), 103);
        check.same("HIGH on a beacon", x.trainIs(0, 2), 103);
        x.pass(1);
        check.same("LOW from a beacon", x.trainIs(0, 1), 105);
        check.same("HIGH from a beacon", x.trainIs(0, 2), 107);

        HeadwayDeep y = new HeadwayDeep();
        y.beacon(102);
        y.train(100);
        y.slip(0, 1);
        y.pass(1);
        check.same("LOW on the only beacon", y.trainIs(0, 1), 102);
        y.slip(0, -1);
        y.pass(1);
        check.same("PLACE from it with slip -1", y.trainIs(0, 0), 103);
        check.same("LOW from it", y.trainIs(0, 1), 103);
        check.same("HIGH from it", y.trainIs(0, 2), 105);
    }
}
