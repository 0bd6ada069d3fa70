/** Promises 22 to 24. */
final class RecordEdges {
    private final Edges e;

    private RecordEdges(Edges e) {
        this.e = e;
    }

    static void ask(Edges e) {
        RecordEdges edges = new RecordEdges(e);
        edges.record();
        edges.recordOfLateTrains();
        edges.placeAnew();
        edges.isSafe();
        edges.placesThatAreNotSafe();
        edges.highsThatAreNotSafe();
        edges.metresThatAreNotSafe();
    }

    private void record() {
        e.says("Promise 22", "Returns the speed with which a train went in a tick.");
        e.run("""
            train 300; train 900; pass 4; emergency 0; pass 3
            record 0 1 = 1; record 0 2 = 2; record 0 3 = 3; record 0 4 = 4; record 0 5 = 1
            record 0 6 = 0; record 0 7 = 1
            record 1 1 = 1; record 1 4 = 4; record 1 5 = 5; record 1 7 = 7
            """);
        e.run("speed 20; train 300; pass 20; record 0 20 = 20; speed 1; record 0 20 = 20; pass 1; record 0 21 = 19");
        e.run("train 300; slip 0 1; pass 2; record 0 1 = 1; record 0 2 = 2; hold 0 1 = ISE; record 0 2 = 2");
        e.run("train 300; hold 0 2; pass 3; record 0 1 = 0; record 0 2 = 0; record 0 3 = 1");

        e.says("Promise 22", "`tick`: 1 to that of now");
        e.run("""
            train 300; record 0 least = IAE; record 0 -1 = IAE; record 0 0 = IAE; record 0 1 = IAE
            pass 1; record 0 0 = IAE; record 0 1 = 1; record 0 2 = IAE
            pass 2; record 0 3 = 3; record 0 4 = IAE; record 0 greatest = IAE
            """);
        e.run(TickEdges.passed(990) + """
            train 300; pass 8; record 0 998 = 8; record 0 999 = IAE; record 0 1 = none; pass 1; record 0 999 = 9
            record 0 1000 = IAE; record 0 greatest = IAE
            """);

        e.says("Promise 22", "Throws `IndexOutOfBoundsException` as told");
        e.run("""
            pass 1; record 0 1 = IOOBE; train 300; platform 300; platform 300; record 0 1 = none; record 1 1 = IOOBE
            record -1 1 = IOOBE; record least 1 = IOOBE; record greatest 1 = IOOBE
            """);

        e.says("Promise 22", "Throws `IllegalArgumentException` as told");
        e.run("""
            train 300; record 0 1 = IAE; record 1 1 = IOOBE; record 1 0 = IOOBE; pass 3; record 0 0 = IAE
            record 0 4 = IAE
            """);
    }

    private void recordOfLateTrains() {
        e.says("Promise 22", "Returns NONE if it was not there.");
        e.run("""
            pass 3; train 300; record 0 1 = none; record 0 2 = none; record 0 3 = none; record 0 4 = IAE
            pass 1; record 0 3 = none; record 0 4 = 1; hold 0 1 = ISE
            train 100; record 1 4 = none; pass 1; record 1 4 = none; record 1 5 = 1; record 0 5 = 2
            """);
        // At rest it was there.
        e.run("pass 1; train 300; hold 0 9; pass 1; record 0 1 = none; record 0 2 = 0");
        e.run(TickEdges.passed(999) + """
            train 300; record 0 1 = none; record 0 998 = none; record 0 999 = none; record 0 1000 = IAE
            placeAnew 0 = 300
            """);
    }

    private void placeAnew() {
        e.says("Promise 23", "Returns the PLACE of a train, "
            + "found from where it was put in and all that it went since.");
        e.run("train 300; placeAnew 0 = 300; pass 1; placeAnew 0 = 301; pass 1; placeAnew 0 = 303");
        e.run("""
            train 300; slip 0 1; pass 2; placeAnew 0 = 305; slip 0 -1; placeAnew 0 = 305; pass 2
            placeAnew 0 = 310; slip 0 0; placeAnew 0 = 310; pass 1; placeAnew 0 = 315; place 0 = 315
            """);
        e.run("""
            train 300; slip 0 -1; pass 1; placeAnew 0 = 300; place 0 = 300; pass 1; placeAnew 0 = 301
            place 0 = 301
            """);
        e.run("train 300; slip 0 1; hold 0 5; pass 5; placeAnew 0 = 300; place 0 = 300; pass 1; placeAnew 0 = 302");
        e.run("""
            beacon 305; train 300; pass 5; placeAnew 0 = 315; place 0 = 315; emergency 0; pass 2
            placeAnew 0 = 317
            """);
        e.run("""
            pass 9; train 300; placeAnew 0 = 300; pass 3; train 100; placeAnew 0 = 306; placeAnew 1 = 100
            pass 2; placeAnew 0 = 315; placeAnew 1 = 103
            """);
        // With a pass on the last tick, and one put in there.
        e.run(TickEdges.passed(997) + """
            train 300; pass 2 = 999; placeAnew 0 = 303; place 0 = 303; train 100; placeAnew 1 = 100
            """);
        // It goes 120 metres to the speed 15, 277 times 15, then 14 and 13, and once more 13 down to 1.
        e.run("train 300; " + TickEdges.passed(999) + """
            high 0 = 5000; speedOf 0 = 0; placeAnew 0 = 4693; place 0 = 4693
            """);

        e.says("Promise 23", "Throws `IndexOutOfBoundsException` as told");
        e.run("""
            placeAnew 0 = IOOBE; train 300; platform 300; platform 300; placeAnew 0 = 300; placeAnew 1 = IOOBE
            placeAnew -1 = IOOBE; placeAnew least = IOOBE; placeAnew greatest = IOOBE
            """);
    }

    private void isSafe() {
        e.says("Promise 24", "Tells whether each PLACE is from its LOW to its HIGH, each HIGH at most its LIMIT, "
            + "and no two trains may cover one metre.");
        e.run("isSafe = true; pass 1; isSafe = true");
        e.run("train 5000; isSafe = true; high 0 = 5000; limit 0 = 5000");
        // The PLACE at its HIGH, and at its LOW.
        e.run("train 300; slip 0 1; pass 9; place 0 = 354; high 0 = 354; isSafe = true");
        e.run("train 300; slip 0 -1; pass 9; place 0 = 336; low 0 = 336; isSafe = true");
        // Each HIGH at its LIMIT: 19 metres are between a train and what the one ahead may cover.
        e.run("train 100; train 220; train 340; train 460; train 580; isSafe = true; limit 0 = 100; limit 3 = 460");
        e.run("train 580; train 460; train 340; train 220; train 100; isSafe = true; pass 9; isSafe = true");
        e.run("""
            train 220; train 100; hold 0 60; pass 9; isSafe = true; silent 0 true; pass 60; isSafe = true
            low 0 = 256; high 1 = 100; pass 99; isSafe = true; silent 0 false; pass 99; isSafe = true
            """);
    }

    private void placesThatAreNotSafe() {
        e.says("Promise 24", "Tells whether each PLACE is from its LOW to its HIGH,");
        e.sees("below its LOW", !new ByHand(1000).with(0, "low", 1001).with(0, "high", 1001).isSafe());
        e.sees("at its LOW", new ByHand(1000).with(0, "high", 1001).isSafe());
        e.sees("at its HIGH", new ByHand(1000).with(0, "low", 999).isSafe());
        e.sees("above its HIGH", !new ByHand(1000).with(0, "low", 998).with(0, "high", 999).isSafe());
        // Each of them, not the first one alone, or the last one.
        for (int train = 0; train < 3; train++) {
            ByHand line = new ByHand(1000, 2000, 3000);
            e.sees("three as they were put in", line.isSafe());
            e.sees("one of three below its LOW", !line.with(train, "place", 500).isSafe());
            e.sees("one of three above its HIGH", !line.with(train, "place", 4000).isSafe());
        }
    }

    private void highsThatAreNotSafe() {
        e.says("Promise 24", "each HIGH at most its LIMIT,");
        e.sees("at it", new ByHand(1000).with(0, "limit", 1000).isSafe());
        e.sees("above it", !new ByHand(1000).with(0, "limit", 999).isSafe());
        e.sees("above it, the PLACE not", !new ByHand(1000).with(0, "high", 1001).with(0, "limit", 1000).isSafe());
        for (int train = 0; train < 3; train++) {
            ByHand line = new ByHand(1000, 2000, 3000).with(train, "limit", 500);
            e.sees("one of three above it", !line.isSafe());
        }
    }

    private void metresThatAreNotSafe() {
        e.says("Promise 24", "and no two trains may cover one metre.");
        // What the one at 1000 may cover begins at 900.
        e.sees("one metre apart", new ByHand(1000, 500).with(1, "high", 899).with(1, "limit", 899).isSafe());
        e.sees("both at 900", !new ByHand(1000, 500).with(1, "high", 900).with(1, "limit", 900).isSafe());
        e.sees("the same, by the other's LOW", !new ByHand(1000, 500).with(0, "low", 600).isSafe());
        e.sees("one metre apart, by the other's LOW", new ByHand(1000, 500).with(0, "low", 601).isSafe());
        e.sees("one within the other", !new ByHand(1000, 500)
            .with(1, "low", 100).with(1, "high", 4000).with(1, "limit", 4000).isSafe());
        e.sees("numbers the other way", !new ByHand(500, 1000).with(0, "high", 900).with(0, "limit", 900).isSafe());
        e.sees("numbers the other way, one metre apart",
            new ByHand(500, 1000).with(0, "high", 899).with(0, "limit", 899).isSafe());
        // Any two of them.
        for (int behind = 0; behind < 4; behind++) {
            ByHand line = new ByHand(1000, 2000, 3000, 4000, 5000);
            int reached = 1900 + 1000 * behind;
            line.with(behind, "limit", reached).with(behind, "high", reached - 1);
            e.sees("one metre from the next", line.isSafe());
            e.sees("one metre with the next", !line.with(behind, "high", reached).isSafe());
        }
    }
}
