/** Promises 14 to 21: STOPS, doors, holding, departures and what a PLATFORM is. */
public final class StopTest {
    private static final Check check = new Check("StopTest");

    public static void main(String[] args) {
        promise14TellsStops();
        promise14StopsAtTheMark();
        promise15Bars();
        promise16Opens();
        promise16LetsPeopleOff();
        promise16AsksToBeAtTheStop();
        promise17Shuts();
        promise18Holds();
        promise19Departs();
        promise19DepartsInSilence();
        promise20TellsRates();
        promise20BoardsFromThatPlatform();
        promise21TellsWhatPlatformIs();
        check.end();
    }

    /** A train at rest on the mark of the PLATFORM 0, with that as its STOP. */
    private static HeadwayDeep atStop() {
        HeadwayDeep x = new HeadwayDeep();
        x.platform(300);
        x.train(300);
        x.stop(0, 0);
        return x;
    }

    private static void promise14TellsStops() {
        HeadwayDeep x = new HeadwayDeep();
        x.platform(139);
        x.platform(138);
        x.platform(2000);
        check.noSuch("stop(0, 0) without a train", () -> x.stop(0, 0));
        x.train(100);
        check.noSuch("stop(0, 3)", () -> x.stop(0, 3));
        check.noSuch("stop(0, -1)", () -> x.stop(0, -1));
        check.noSuch("stop(-1, 0)", () -> x.stop(-1, 0));
        x.pass(5);
        // The HIGH is 120 and the WAY TO STOP of 5 is 20.
        check.notNow("stop(0, 1) that is not kept", () -> x.stop(0, 1));
        check.same("STOP behind that", x.trainIs(0, 7), HeadwayDeep.NONE);
        x.silent(0, true);
        check.notNow("stop(0, 2) of a SILENT one", () -> x.stop(0, 2));
        x.silent(0, false);
        x.stop(0, 0);
        check.same("STOP", x.trainIs(0, 7), 0);
        x.stop(0, 2);
        check.same("STOP in place of another one", x.trainIs(0, 7), 2);
        x.emergency(0);
        x.pass(2);
        x.hold(0, 9);
        x.stop(0, 0);
        check.same("STOP of one that is held", x.trainIs(0, 7), 0);
    }

    private static void promise14StopsAtTheMark() {
        HeadwayDeep x = new HeadwayDeep();
        x.platform(150);
        x.beacon(149);
        x.train(100);
        x.stop(0, 0);
        x.pass(60);
        check.same("speed at the mark", x.trainIs(0, 3), 0);
        check.same("HIGH at most 1 more than the mark", x.trainIs(0, 2) <= 151, true);
        check.same("HIGH near the mark", x.trainIs(0, 2) >= 149, true);

        HeadwayDeep y = new HeadwayDeep();
        y.platform(101);
        y.train(100);
        y.stop(0, 0);
        y.pass(1);
        check.same("HIGH at 1 more than the mark", y.trainIs(0, 2), 102);
        y.pass(1);
        check.same("speed with no way left", y.trainIs(0, 3), 0);
        check.same("it is AT its STOP", y.open(0, 0), 15);

        HeadwayDeep z = new HeadwayDeep();
        z.platform(100);
        z.train(100);
        z.stop(0, 0);
        z.pass(9);
        check.same("PLACE with the STOP there", z.trainIs(0, 0), 100);
    }

    private static void promise15Bars() {
        HeadwayDeep x = atStop();
        check.noSuch("bar(true, 1, 16)", () -> x.bar(true, 1, 16));
        check.noSuch("bar(false, 1, 0)", () -> x.bar(false, 1, 0));
        check.noSuch("bar(true, -1, 0)", () -> x.bar(true, -1, 0));
        check.bad("bar(true, 0, 16)", () -> x.bar(true, 0, 16));
        check.bad("bar(false, 0, -1)", () -> x.bar(false, 0, -1));
        check.same("bar(true, 0, 1)", x.bar(true, 0, 1), 0);
        check.same("bar(false, 0, 4)", x.bar(false, 0, 4), 0);
        check.same("open(0, 0)", x.open(0, 0), 10);
        check.same("bar(true, 0, 15)", x.bar(true, 0, 15), 1);
        check.same("bar(false, 0, 15)", x.bar(false, 0, 15), 4);
        check.same("open doors stay", x.trainIs(0, 8), 10);
        check.same("bar(true, 0, 2)", x.bar(true, 0, 2), 15);
        check.same("bar(false, 0, 2)", x.bar(false, 0, 2), 15);
        x.shut(0);
        check.same("open(0, 0) with the same barred at both", x.open(0, 0), 13);
        check.same("bar(true, 0, 0)", x.bar(true, 0, 0), 2);
        check.same("bar(false, 0, 0)", x.bar(false, 0, 0), 2);
        x.shut(0);
        check.same("open(0, 0) with none barred any more", x.open(0, 0), 15);

        HeadwayDeep y = new HeadwayDeep();
        y.train(1000);
        y.train(500);
        y.platform(100);
        check.noSuch("bar(false, 1, 0) with two trains", () -> y.bar(false, 1, 0));
        check.same("bar(true, 1, 3)", y.bar(true, 1, 3), 0);
        check.same("bar(true, 0, 3)", y.bar(true, 0, 3), 0);
        check.same("bar(false, 0, 3)", y.bar(false, 0, 3), 0);
    }

    private static void promise16Opens() {
        HeadwayDeep x = atStop();
        check.noSuch("open(1, 121)", () -> x.open(1, 121));
        check.bad("open(0, 121)", () -> x.open(0, 121));
        check.bad("open(0, -1)", () -> x.open(0, -1));
        check.same("doors shut at first", x.trainIs(0, 8), HeadwayDeep.NONE);
        check.same("open(0, 120)", x.open(0, 120), 15);
        check.same("doors open", x.trainIs(0, 8), 15);
        check.notNow("open(0, 0) again", () -> x.open(0, 0));
        check.bad("open(0, 121) with open doors", () -> x.open(0, 121));
        check.notNow("stop(0, 0) with open doors", () -> x.stop(0, 0));
        x.pass(3);
        check.same("speed with open doors", x.trainIs(0, 3), 0);
        x.shut(0);
        x.bar(true, 0, 12);
        x.bar(false, 0, 3);
        check.same("open(0, 0) with all barred", x.open(0, 0), 0);
        check.same("doors open, but none is", x.trainIs(0, 8), 0);
        check.notNow("depart(0) with none open", () -> x.depart(0));
        x.pass(3);
        check.same("PLACE with none open", x.trainIs(0, 0), 300);
        x.shut(0);
    }

    private static void promise16LetsPeopleOff() {
        HeadwayDeep x = atStop();
        x.rate(0, 9);
        x.open(0, 50);
        x.pass(4);
        check.same("people", x.trainIs(0, 9), 32);
        x.shut(0);
        x.open(0, 5);
        check.same("people behind open(0, 5)", x.trainIs(0, 9), 27);
        check.same("those who wait are not more by it", x.platformIs(0, 1), 4);
        x.shut(0);
        x.bar(true, 0, 15);
        x.open(0, 2);
        check.same("people behind open(0, 2) with all barred", x.trainIs(0, 9), 25);
        x.shut(0);
        x.open(0, 120);
        check.same("people behind open(0, 120)", x.trainIs(0, 9), 0);
    }

    private static void promise16AsksToBeAtTheStop() {
        HeadwayDeep x = new HeadwayDeep();
        x.platform(300);
        x.train(300);
        check.notNow("open(0, 0) without a STOP", () -> x.open(0, 0));
        x.platform(299);
        x.platform(301);
        x.platform(302);
        x.platform(298);
        check.notNow("stop(0, 4) with the mark 2 behind", () -> x.stop(0, 4));
        x.stop(0, 1);
        check.same("open(0, 0) with the mark 1 behind", x.open(0, 0), 15);
        x.shut(0);
        x.stop(0, 2);
        check.same("open(0, 0) with the mark 1 ahead", x.open(0, 0), 15);
        x.shut(0);
        x.stop(0, 3);
        check.notNow("open(0, 0) with the mark 2 ahead", () -> x.open(0, 0));
        x.silent(0, true);
        check.notNow("open(0, 0) of a SILENT one there", () -> x.open(0, 0));
        x.silent(0, false);
        x.stop(0, 0);
        x.silent(0, true);
        check.same("open(0, 0) of a SILENT one", x.open(0, 0), 15);

        HeadwayDeep y = new HeadwayDeep();
        y.platform(100);
        y.platform(101);
        y.train(100);
        y.stop(0, 1);
        y.pass(1);
        check.notNow("open(0, 0) with a speed above 0", () -> y.open(0, 0));
        check.notNow("depart(0) with a speed above 0", () -> y.depart(0));

        HeadwayDeep z = new HeadwayDeep();
        z.platform(103);
        z.train(100);
        z.stop(0, 0);
        z.pass(9);
        // It knows its PLACE to be 100 to 104 only, though that is 102.
        check.same("LOW", z.trainIs(0, 1), 100);
        check.same("HIGH", z.trainIs(0, 2), 104);
        check.notNow("open(0, 0) without knowing the PLACE", () -> z.open(0, 0));
    }

    private static void promise17Shuts() {
        HeadwayDeep x = atStop();
        check.noSuch("shut(1)", () -> x.shut(1));
        check.noSuch("shut(-1)", () -> x.shut(-1));
        check.notNow("shut(0)", () -> x.shut(0));
        x.open(0, 0);
        x.shut(0);
        check.same("doors", x.trainIs(0, 8), HeadwayDeep.NONE);
        check.same("STOP stays", x.trainIs(0, 7), 0);
        check.notNow("shut(0) again", () -> x.shut(0));
        x.rate(0, 9);
        x.pass(2);
        check.same("people with doors shut", x.trainIs(0, 9), 0);
    }

    private static void promise18Holds() {
        HeadwayDeep x = new HeadwayDeep();
        check.noSuch("hold(0, 0)", () -> x.hold(0, 0));
        x.train(1000);
        check.bad("hold(0, 0)", () -> x.hold(0, 0));
        check.bad("hold(0, 61)", () -> x.hold(0, 61));
        check.same("hold(0, 2)", x.hold(0, 2), 2);
        x.pass(1);
        check.same("held for 1 still", x.trainIs(0, 10), 1);
        check.same("PLACE of one held", x.trainIs(0, 0), 1000);
        x.pass(1);
        check.same("held no more", x.trainIs(0, 10), 0);
        check.same("speed of the last tick held", x.trainIs(0, 3), 0);
        check.same("hold(0, 60)", x.hold(0, 60), 60);
        check.same("hold(0, 39)", x.hold(0, 39), 99);
        check.same("hold(0, 60) again", x.hold(0, 60), 99);
        x.pass(99);
        check.same("speed behind 99 ticks", x.trainIs(0, 3), 0);
        x.pass(1);
        check.same("speed behind 100 ticks", x.trainIs(0, 3), 1);
        check.same("held stays 0", x.trainIs(0, 10), 0);
        check.notNow("hold(0, 1) at speed 1", () -> x.hold(0, 1));
        check.bad("hold(0, 61) at speed 1", () -> x.hold(0, 61));
    }

    private static void promise19Departs() {
        HeadwayDeep x = new HeadwayDeep();
        x.platform(500);
        x.platform(300);
        check.noSuch("depart(0)", () -> x.depart(0));
        x.train(300);
        check.notNow("depart(0) without a STOP", () -> x.depart(0));
        x.stop(0, 0);
        check.notNow("depart(0) far from its STOP", () -> x.depart(0));
        x.stop(0, 1);
        x.open(0, 0);
        check.notNow("depart(0) with open doors", () -> x.depart(0));
        x.shut(0);
        x.hold(0, 1);
        check.notNow("depart(0) held", () -> x.depart(0));
        check.same("departures", x.platformIs(1, 2), 0);
        x.pass(1);
        check.same("depart(0)", x.depart(0), 1);
        check.same("STOP", x.trainIs(0, 7), HeadwayDeep.NONE);
        check.same("departures from it", x.platformIs(1, 2), 1);
        check.same("departures from the other", x.platformIs(0, 2), 0);
        check.notNow("depart(0) again", () -> x.depart(0));
        x.pass(1);
        check.same("speed behind it", x.trainIs(0, 3), 1);
    }

    private static void promise19DepartsInSilence() {
        HeadwayDeep x = atStop();
        x.silent(0, true);
        check.same("depart(0) of a SILENT one", x.depart(0), 0);
        x.pass(1);
        check.same("speed of a SILENT one", x.trainIs(0, 3), 1);
    }

    private static void promise20TellsRates() {
        HeadwayDeep x = new HeadwayDeep();
        check.noSuch("rate(0, 10)", () -> x.rate(0, 10));
        x.platform(300);
        check.bad("rate(0, 10)", () -> x.rate(0, 10));
        check.bad("rate(0, -1)", () -> x.rate(0, -1));
        check.same("rate(0, 9)", x.rate(0, 9), 0);
        check.same("rate(0, 8)", x.rate(0, 8), 9);
        x.pass(99);
        check.same("who wait", x.platformIs(0, 1), 792);
        x.pass(25);
        check.same("who wait, below the most", x.platformIs(0, 1), 992);
        x.pass(1);
        check.same("who wait, at most", x.platformIs(0, 1), 999);
        check.same("rate(0, 0)", x.rate(0, 0), 8);
        x.pass(1);
        check.same("who wait with the rate 0", x.platformIs(0, 1), 999);
    }

    private static void promise20BoardsFromThatPlatform() {
        HeadwayDeep x = new HeadwayDeep();
        x.platform(2000);
        x.platform(300);
        x.rate(0, 9);
        x.rate(1, 9);
        x.train(300);
        x.stop(0, 1);
        x.bar(true, 0, 1);
        x.open(0, 0);
        x.pass(1);
        check.same("people by three doors", x.trainIs(0, 9), 6);
        check.same("who wait there", x.platformIs(1, 1), 3);
        check.same("who wait elsewhere", x.platformIs(0, 1), 9);
        x.rate(1, 1);
        x.pass(2);
        check.same("people by those who wait", x.trainIs(0, 9), 11);
        check.same("none waits", x.platformIs(1, 1), 0);
        x.rate(1, 9);
        x.pass(19);
        check.same("people at most", x.trainIs(0, 9), 120);
        check.same("who wait then", x.platformIs(1, 1), 171 - 109);
    }

    private static void promise21TellsWhatPlatformIs() {
        HeadwayDeep x = atStop();
        check.noSuch("platformIs(1, 4)", () -> x.platformIs(1, 4));
        check.noSuch("platformIs(-1, 0)", () -> x.platformIs(-1, 0));
        check.bad("platformIs(0, 4)", () -> x.platformIs(0, 4));
        check.bad("platformIs(0, -1)", () -> x.platformIs(0, -1));
        check.same("its mark", x.platformIs(0, 0), 300);
        check.same("who wait at first", x.platformIs(0, 1), 0);
        check.same("departures at first", x.platformIs(0, 2), 0);
        check.same("gap at first", x.platformIs(0, 3), HeadwayDeep.NONE);
        x.pass(2);
        x.depart(0);
        check.same("gap with one", x.platformIs(0, 3), HeadwayDeep.NONE);
        x.stop(0, 0);
        x.pass(5);
        x.depart(0);
        check.same("gap with two", x.platformIs(0, 3), 5);
        x.stop(0, 0);
        x.pass(3);
        check.same("gap until the third", x.platformIs(0, 3), 5);
        x.depart(0);
        check.same("gap with three", x.platformIs(0, 3), 3);
        check.same("departures", x.platformIs(0, 2), 3);
        x.stop(0, 0);
        x.depart(0);
        check.same("gap in one tick", x.platformIs(0, 3), 0);
    }
}
