/** Promises 22 to 24: records, PLACES found anew, and safety. */
public final class RecordTest {
    private static final Check check = new Check("RecordTest");

    public static void main(String[] args) {
        promise22TellsSpeedsGone();
        promise22TellsLastTick();
        promise23FindsPlaceAnew();
        promise24StaysSafe();
        check.end();
    }

    private static void promise22TellsSpeedsGone() {
        HeadwayDeep x = new HeadwayDeep();
        check.noSuch("record(0, 0)", () -> x.record(0, 0));
        x.train(1000);
        check.bad("record(0, 0)", () -> x.record(0, 0));
        check.bad("record(0, 1) at the tick 0", () -> x.record(0, 1));
        x.pass(3);
        x.train(100);
        x.emergency(0);
        x.pass(2);
        check.noSuch("record(2, 1)", () -> x.record(2, 1));
        check.bad("record(0, 6)", () -> x.record(0, 6));
        int[] due = {1, 2, 3, 0, 1};
        for (int tick = 1; tick <= 5; tick++) {
            check.same("record(0, " + tick + ")", x.record(0, tick), due[tick - 1]);
        }
        check.same("record(1, 1) ahead of it", x.record(1, 1), HeadwayDeep.NONE);
        check.same("record(1, 3) ahead of it", x.record(1, 3), HeadwayDeep.NONE);
        check.same("record(1, 4)", x.record(1, 4), 1);
        check.same("record(1, 5)", x.record(1, 5), 2);
    }

    private static void promise22TellsLastTick() {
        HeadwayDeep x = new HeadwayDeep();
        x.train(100);
        for (int i = 0; i < 10; i++) {
            x.pass(99);
        }
        x.train(100);
        x.pass(9);
        check.same("record(1, 990)", x.record(1, 990), HeadwayDeep.NONE);
        check.same("record(1, 999)", x.record(1, 999), 9);
        check.same("record(0, 999)", x.record(0, 999), 0);
        check.bad("record(0, 1000)", () -> x.record(0, 1000));
        check.same("train(3000) at the tick 999", x.train(3000), 2);
        check.same("record(2, 999)", x.record(2, 999), HeadwayDeep.NONE);
        check.same("placeAnew(2)", x.placeAnew(2), 3000);
    }

    private static void promise23FindsPlaceAnew() {
        HeadwayDeep x = new HeadwayDeep();
        check.noSuch("placeAnew(0)", () -> x.placeAnew(0));
        x.pass(2);
        x.train(1000);
        check.same("placeAnew(0) at first", x.placeAnew(0), 1000);
        x.slip(0, 1);
        x.pass(3);
        check.same("placeAnew(0) with slip 1", x.placeAnew(0), 1009);
        x.slip(0, -1);
        x.pass(2);
        check.same("placeAnew(0) with slip -1", x.placeAnew(0), 1016);
        x.emergency(0);
        x.pass(2);
        x.hold(0, 5);
        x.pass(5);
        check.same("placeAnew(0) at rest", x.placeAnew(0), 1017);
        check.same("PLACE", x.trainIs(0, 0), 1017);
        check.noSuch("placeAnew(1)", () -> x.placeAnew(1));
        check.noSuch("placeAnew(-1)", () -> x.placeAnew(-1));
    }

    private static void promise24StaysSafe() {
        HeadwayDeep x = new HeadwayDeep();
        for (int i = 0; i < 5; i++) {
            x.train(100 + 120 * i);
            x.slip(i, i % 2 == 0 ? 1 : -1);
            check.same("isSafe() with one more", x.isSafe(), true);
        }
        x.zone(2000, 2500);
        x.close(0, true);
        for (int i = 0; i < 40; i++) {
            x.pass(7);
            x.silent(i % 5, i % 3 == 0);
            check.same("isSafe() on the way", x.isSafe(), true);
        }
        check.same("HIGH at the zone", x.trainIs(4, 2) <= 2000, true);
    }
}
