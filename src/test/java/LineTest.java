/** Promises 1 to 7: a new object, PLATFORMS, BEACONS, ZONES and the line speed. */
public final class LineTest {
    private static final Check check = new Check("LineTest");

    public static void main(String[] args) {
        promise1BeginsEmpty();
        promise2AddsPlatforms();
        promise3AddsBeacons();
        promise4TellsWhetherBeaconWorks();
        promise5AddsZones();
        promise6ClosesAndOpens();
        promise6AsksTrainsToKeep();
        promise6DealsAnew();
        promise7TellsLineSpeed();
        check.end();
    }

    private static void promise1BeginsEmpty() {
        HeadwayDeep x = new HeadwayDeep();
        check.same("a new isSafe()", x.isSafe(), true);
        check.noSuch("a new trainIs(0, 0)", () -> x.trainIs(0, 0));
        check.noSuch("a new platformIs(0, 0)", () -> x.platformIs(0, 0));
        check.noSuch("a new works(0, true)", () -> x.works(0, true));
        check.noSuch("a new close(0, false)", () -> x.close(0, false));
        check.same("a new pass(1)", x.pass(1), 1);
        check.same("a new speed(3)", x.speed(3), 15);
        check.same("NONE", HeadwayDeep.NONE, -1);
    }

    private static void promise2AddsPlatforms() {
        HeadwayDeep x = new HeadwayDeep();
        check.bad("platform(99)", () -> x.platform(99));
        check.bad("platform(5001)", () -> x.platform(5001));
        check.bad("platform(least)", () -> x.platform(Integer.MIN_VALUE));
        check.same("platform(100)", x.platform(100), 0);
        check.same("platform(5000)", x.platform(5000), 1);
        for (int i = 2; i < 6; i++) {
            check.same("platform(100) again", x.platform(100), i);
        }
        check.notNow("a 7th platform", () -> x.platform(100));
        check.bad("a 7th platform(99)", () -> x.platform(99));
        check.same("platformIs(1, 0)", x.platformIs(1, 0), 5000);
        check.noSuch("platformIs(6, 0)", () -> x.platformIs(6, 0));
    }

    private static void promise3AddsBeacons() {
        HeadwayDeep x = new HeadwayDeep();
        check.bad("beacon(-1)", () -> x.beacon(-1));
        check.bad("beacon(5001)", () -> x.beacon(5001));
        check.same("beacon(0)", x.beacon(0), 0);
        check.same("beacon(5000)", x.beacon(5000), 1);
        for (int i = 2; i < 12; i++) {
            check.same("beacon(7) again", x.beacon(7), i);
        }
        check.notNow("a 13th beacon", () -> x.beacon(0));
        check.bad("a 13th beacon(-1)", () -> x.beacon(-1));
        check.same("works(11, true)", x.works(11, true), true);
    }

    private static void promise4TellsWhetherBeaconWorks() {
        HeadwayDeep x = new HeadwayDeep();
        x.beacon(101);
        x.beacon(104);
        check.noSuch("works(2, false)", () -> x.works(2, false));
        check.noSuch("works(-1, false)", () -> x.works(-1, false));
        check.same("works(0, false)", x.works(0, false), true);
        check.same("works(0, false) again", x.works(0, false), false);
        x.train(100);
        x.pass(1);
        check.same("HIGH over a beacon that does not work", x.trainIs(0, 2), 102);
        x.pass(1);
        check.same("HIGH ahead of a beacon", x.trainIs(0, 2), 105);
        check.same("works(0, true)", x.works(0, true), false);
        x.pass(1);
        check.same("HIGH over a beacon that works", x.trainIs(0, 2), 106);
        check.same("LOW over a beacon that works", x.trainIs(0, 1), 106);
    }

    private static void promise5AddsZones() {
        HeadwayDeep x = new HeadwayDeep();
        check.bad("zone(-1, 5)", () -> x.zone(-1, 5));
        check.bad("zone(5000, 5001)", () -> x.zone(5000, 5001));
        check.bad("zone(10, 10)", () -> x.zone(10, 10));
        check.bad("zone(10, 9)", () -> x.zone(10, 9));
        check.bad("zone(10, 5001)", () -> x.zone(10, 5001));
        check.bad("zone(greatest, 5)", () -> x.zone(Integer.MAX_VALUE, 5));
        check.same("zone(0, 1)", x.zone(0, 1), 0);
        check.same("zone(4999, 5000)", x.zone(4999, 5000), 1);
        check.same("zone(0, 5000)", x.zone(0, 5000), 2);
        check.same("zone(0, 5000) again", x.zone(0, 5000), 3);
        check.notNow("a 5th zone", () -> x.zone(0, 1));
        check.bad("a 5th zone(1, 1)", () -> x.zone(1, 1));
        check.same("a zone is not CLOSED at first", x.close(3, false), false);
    }

    private static void promise6ClosesAndOpens() {
        HeadwayDeep x = new HeadwayDeep();
        x.train(1000);
        x.zone(500, 899);
        x.zone(500, 900);
        x.zone(1000, 1001);
        x.zone(1001, 1002);
        check.noSuch("close(4, true)", () -> x.close(4, true));
        check.noSuch("close(-1, true)", () -> x.close(-1, true));
        check.notNow("close(1, true) over the rear end", () -> x.close(1, true));
        check.notNow("close(2, true) over the HIGH", () -> x.close(2, true));
        check.same("close(1, false)", x.close(1, false), false);
        check.same("close(0, true) behind", x.close(0, true), false);
        check.same("close(0, true) again", x.close(0, true), true);
        check.same("LIMIT with a zone behind", x.trainIs(0, 4), 5000);
        check.same("close(3, true) ahead", x.close(3, true), false);
        check.same("LIMIT with a zone ahead", x.trainIs(0, 4), 1001);
        x.pass(1);
        check.same("speed ahead of a closed zone", x.trainIs(0, 3), 0);
        check.same("close(3, false)", x.close(3, false), true);
        check.same("LIMIT with it opened", x.trainIs(0, 4), 5000);
    }

    private static void promise6AsksTrainsToKeep() {
        HeadwayDeep x = new HeadwayDeep();
        x.train(100);
        x.pass(5);
        // The HIGH is 120 and the WAY TO STOP of 5 is 20.
        x.zone(139, 200);
        x.zone(140, 200);
        check.notNow("close of a zone that is not kept", () -> x.close(0, true));
        check.same("LIMIT behind that", x.trainIs(0, 4), 5000);
        x.silent(0, true);
        check.notNow("close that a SILENT one's LIMIT does not keep", () -> x.close(1, true));
        x.silent(0, false);
        check.same("close of a zone that is kept", x.close(1, true), false);
        x.silent(0, true);
        check.same("opened for a SILENT one", x.close(1, false), true);
        check.same("a SILENT one's LIMIT stays", x.trainIs(0, 4), 140);
        check.same("close that a SILENT one's LIMIT keeps", x.close(1, true), false);
        x.pass(20);
        check.same("HIGH at most at the zone", x.trainIs(0, 2) <= 140, true);
    }

    private static void promise6DealsAnew() {
        HeadwayDeep x = new HeadwayDeep();
        x.train(100);
        x.zone(3000, 3100);
        x.zone(10, 20);
        x.close(0, true);
        x.silent(0, true);
        x.close(0, false);
        x.silent(0, false);
        check.same("LIMIT not yet dealt out", x.trainIs(0, 4), 3000);
        check.same("close that changes nothing", x.close(0, false), false);
        check.same("LIMIT dealt out by it", x.trainIs(0, 4), 5000);
        x.close(0, true);
        x.silent(0, true);
        x.close(0, false);
        x.silent(0, false);
        check.notNow("a close that throws", () -> x.close(1, true));
        check.same("LIMIT behind a close that throws", x.trainIs(0, 4), 3000);
    }

    private static void promise7TellsLineSpeed() {
        HeadwayDeep x = new HeadwayDeep();
        check.bad("speed(0)", () -> x.speed(0));
        check.bad("speed(21)", () -> x.speed(21));
        check.same("speed(1)", x.speed(1), 15);
        check.same("speed(20)", x.speed(20), 1);
        x.train(100);
        x.pass(30);
        check.same("speed with the line speed 20", x.trainIs(0, 3), 20);
        check.same("speed(18)", x.speed(18), 20);
        x.pass(1);
        check.same("speed a tick on", x.trainIs(0, 3), 19);
        x.pass(5);
        check.same("speed five ticks further", x.trainIs(0, 3), 18);
    }
}
