/** STOPS, doors, holding and departures, and promises 14 to 21. */
final class StopEdges {
    /** A train at rest on the mark of its STOP. */
    private static final String AT_STOP = "platform 300; train 300; stop 0 0\n";
    /** One that knows its PLACE, 301, to be 300 to 302, and is at rest. */
    private static final String WIDE = """
        train 300; pass 1; emergency 0; pass 1; low 0 = 300; high 0 = 302; speedOf 0 = 0
        """;

    private final Edges e;

    private StopEdges(Edges e) {
        this.e = e;
    }

    static void ask(Edges e) {
        StopEdges edges = new StopEdges(e);
        edges.whenStopsAreTold();
        edges.beingAtStops();
        edges.doorsThatAreBarred();
        edges.openDoors();
        edges.peopleWhoGetOff();
        edges.departures();
        edges.gaps();
        edges.holding();
        edges.stop();
        edges.bar();
        edges.open();
        edges.shut();
        edges.hold();
        edges.depart();
        edges.rate();
        edges.platformIs();
    }

    private void whenStopsAreTold() {
        e.says("Terms", "A train that is not SILENT may be told a STOP, a PLATFORM, if it KEEPS 1 more than its mark");
        e.run("""
            train 300; platform 298; platform 299; stop 0 0 = ISE; stopOf 0 = none; stop 0 1 = nothing
            stopOf 0 = 1
            """);
        // With the speed 5 its HIGH is 320 and its WAY TO STOP 20.
        e.run("""
            train 300; platform 338; platform 339; pass 5; high 0 = 320; speedOf 0 = 5
            stop 0 0 = ISE; stopOf 0 = none; stop 0 1 = nothing; stopOf 0 = 1
            pass 99; speedOf 0 = 0; high 0 = 340; isSafe = true
            """);
        e.run("train 300; platform 100; platform 5000; stop 0 0 = ISE; stop 0 1 = nothing");
        e.run("""
            train 300; platform 5000; silent 0 true; stop 0 0 = ISE; stopOf 0 = none; silent 0 false
            stop 0 0 = nothing
            """);
        // Beyond its LIMIT, and on it, all the same.
        e.run("train 300; zone 400 500; close 0 true; platform 450; stop 0 0 = nothing; pass 99; high 0 = 400");

        e.says("Terms", "also one that is held or in EMERGENCY; again in place of another one.");
        e.run("train 300; platform 900; hold 0 9; stop 0 0 = nothing; stopOf 0 = 0; held 0 = 9; pass 9; speedOf 0 = 0");
        e.run("""
            train 300; platform 339; platform 338; pass 5; emergency 0
            stop 0 1 = ISE; stop 0 0 = nothing; stopOf 0 = 0; inEmergency 0 = 1; pass 1; speedOf 0 = 2
            """);
        e.run("""
            train 300; platform 900; platform 300; stop 0 0; stop 0 1 = nothing; stopOf 0 = 1
            stop 0 1 = nothing; stopOf 0 = 1; stop 0 0 = nothing; stopOf 0 = 0
            departures 0 = 0; departures 1 = 0
            """);
        e.run("train 300; platform 900; platform 298; stop 0 0; stop 0 1 = ISE; stopOf 0 = 0");
        e.run("""
            train 300; platform 900; platform 900; stop 0 0; silent 0 true; stop 0 1 = ISE; stop 0 0 = ISE
            stopOf 0 = 0
            """);
    }

    private void beingAtStops() {
        e.says("Terms", "It is AT its STOP, if its speed is 0");
        e.run("""
            platform 301; train 300; stop 0 0; pass 1; speedOf 0 = 1; low 0 = 300; high 0 = 302
            open 0 0 = ISE; depart 0 = ISE
            pass 1; speedOf 0 = 0; low 0 = 300; high 0 = 302
            open 0 0 = 15; shut 0; depart 0 = 0
            """);

        e.says("Terms", "its LOW is at least 1 less than the mark");
        e.run("train 300; platform 300; stop 0 0; open 0 0 = 15");
        e.run("train 300; platform 301; stop 0 0; open 0 0 = 15");
        e.run("train 300; platform 302; stop 0 0; open 0 0 = ISE; depart 0 = ISE; doors 0 = none; stopOf 0 = 0");
        e.run("train 300; platform 300; stop 0 0; depart 0 = 0");
        e.run("train 300; platform 301; stop 0 0; depart 0 = 0");
        // By its LOW: its PLACE 301 and its HIGH 302 are not asked.
        e.run(WIDE + "platform 302; stop 0 0; open 0 0 = ISE; depart 0 = ISE");
        e.run(WIDE + "platform 303; stop 0 0; open 0 0 = ISE; depart 0 = ISE");
        e.run(WIDE + "platform 301; stop 0 0; open 0 0 = 15; shut 0; depart 0 = 0");

        // Nor is its REPORT, which is 300 as long as it is SILENT.
        e.run("""
            platform 302; beacon 301; train 300; stop 0 0; silent 0 true; pass 9; speedOf 0 = 0
            low 0 = 301; high 0 = 303; open 0 0 = 15; shut 0; depart 0 = 0
            """);

        e.says("Terms", "and its HIGH at most 1 more.");
        e.run("train 300; platform 299; stop 0 0; open 0 0 = 15; shut 0; depart 0 = 0");
        e.run("train 300; platform 298; stop 0 0 = ISE; open 0 0 = ISE; depart 0 = ISE");
        e.run(WIDE + "platform 300; stop 0 0 = ISE; platform 301; stop 0 1; open 0 0 = 15");
        // No run of calls leads beyond that with a STOP, so it is put in by hand.
        e.sees("its HIGH 1 more than the mark", opensWith("high", 301) && departsWith("high", 301));
        e.sees("its HIGH 2 more than the mark", !opensWith("high", 302) && !departsWith("high", 302));
        e.sees("its LOW 1 less than the mark", opensWith("low", 299) && departsWith("low", 299));
        e.sees("its LOW 2 less than the mark", !opensWith("low", 298) && !departsWith("low", 298));
    }

    private static ByHand atStopWith(String name, int value) {
        ByHand line = new ByHand(300).made("platform 300; stop 0 0");
        return line.with(0, name, value);
    }

    private static boolean opensWith(String name, int value) {
        return atStopWith(name, value).answers("open 0 0").equals("15");
    }

    private static boolean departsWith(String name, int value) {
        return atStopWith(name, value).answers("depart 0").equals("0");
    }

    private void doorsThatAreBarred() {
        e.says("Terms", "Trains and PLATFORMS have the doors 0 to 3, of which some may be barred, "
            + "told as a set (door d is the bit d); to open doors opens those that are barred at neither.");
        for (int ofTrain = 0; ofTrain <= 15; ofTrain++) {
            StringBuilder script = new StringBuilder(AT_STOP).append("bar true 0 ").append(ofTrain).append(" = 0\n");
            for (int there = 0; there <= 15; there++) {
                int open = 15 - (ofTrain | there);
                script.append("bar false 0 ").append(there).append(" = ").append(Math.max(0, there - 1))
                    .append("; open 0 0 = ").append(open).append("; doors 0 = ").append(open).append("; shut 0\n");
            }
            e.run(script.append("bar true 0 0 = ").append(ofTrain).toString());
        }
        // At the PLATFORM that is its STOP, and at the train itself, alone.
        e.run("platform 300; platform 300; train 300; train 900; bar false 0 1; bar true 1 2; stop 0 1; open 0 0 = 15");
        e.run("platform 300; platform 300; train 300; train 900; bar false 1 1; bar true 0 2; stop 0 1; open 0 0 = 12");
    }

    private void openDoors() {
        e.says("Terms", "Doors can be opened at a train that is AT its STOP; "
            + "as long as they are open (even if none is, as all are barred), it does not go.");
        String onward = "platform 301; train 300; stop 0 0\n";
        e.run(onward + "pass 1; speedOf 0 = 1");
        e.run(onward + "open 0 0 = 15; pass 20; speedOf 0 = 0; place 0 = 300; shut 0; pass 1; speedOf 0 = 1");
        e.run(onward + """
            bar true 0 15; open 0 0 = 0; doors 0 = 0; pass 20; speedOf 0 = 0; place 0 = 300; shut 0; pass 1
            speedOf 0 = 1
            """);
        e.run(onward + """
            bar false 0 15; open 0 0 = 0; doors 0 = 0; pass 20; place 0 = 300; shut 0; pass 1; speedOf 0 = 1
            """);
        e.run(onward + """
            bar false 0 12; bar true 0 3; open 0 0 = 0; doors 0 = 0; pass 20; place 0 = 300; depart 0 = ISE
            """);
        e.run(onward + "bar true 0 14; open 0 0 = 1; pass 20; place 0 = 300; shut 0; pass 1; speedOf 0 = 1");
        // None is open, but they are: they cannot be opened, a STOP cannot be told, they can be shut.
        e.run(AT_STOP + """
            bar true 0 15; open 0 0 = 0; open 0 0 = ISE; stop 0 0 = ISE; depart 0 = ISE; shut 0 = nothing
            shut 0 = ISE; depart 0 = 0
            """);
        e.run("platform 300; train 300; open 0 0 = ISE; stop 0 0; open 0 0 = 15");
    }

    private void peopleWhoGetOff() {
        String eight = AT_STOP + "rate 0 8; open 0 0; pass 1; people 0 = 8; waiting 0 = 0; shut 0\n";
        e.says("Terms", "People get off as doors are opened: as many as are told, or all, if there are fewer");
        e.run(eight + "open 0 0; people 0 = 8");
        e.run(eight + "open 0 1; people 0 = 7");
        e.run(eight + "open 0 7; people 0 = 1");
        e.run(eight + "open 0 8; people 0 = 0");
        e.run(eight + "open 0 9; people 0 = 0");
        e.run(eight + "open 0 120; people 0 = 0");
        e.run(AT_STOP + "open 0 1; people 0 = 0; shut 0; open 0 120; people 0 = 0");
        e.run(eight + "bar true 0 15; open 0 3 = 0; people 0 = 5");
        e.run(eight + "open 0 3; open 0 3 = ISE; people 0 = 5; shut 0; people 0 = 5");
        // All of 120.
        e.run(AT_STOP + "rate 0 8; open 0 0; pass 15; people 0 = 120; shut 0; open 0 119; people 0 = 1");
        e.run(AT_STOP + "rate 0 8; open 0 0; pass 15; people 0 = 120; shut 0; open 0 120; people 0 = 0");

        e.says("Terms", "they are not counted any more.");
        e.run(eight + "rate 0 0; open 0 5; people 0 = 3; waiting 0 = 0; pass 9; people 0 = 3; waiting 0 = 0");
    }

    private void departures() {
        e.says("Terms", "A train that is AT its STOP with its doors shut, and is not held, departs by a call, "
            + "a SILENT one, too: it has no STOP then.");
        e.run(AT_STOP + "depart 0 = 0; stopOf 0 = none; departures 0 = 1; depart 0 = ISE; pass 1; speedOf 0 = 1");
        e.run(AT_STOP + "silent 0 true; depart 0 = 0; stopOf 0 = none; departures 0 = 1; pass 1; speedOf 0 = 1");
        e.run(AT_STOP + "open 0 0; depart 0 = ISE; stopOf 0 = 0; departures 0 = 0; shut 0; depart 0 = 0");
        e.run(AT_STOP + "hold 0 1; depart 0 = ISE; stopOf 0 = 0; pass 1; held 0 = 0; depart 0 = 0");
        e.run(AT_STOP + "hold 0 2; pass 1; held 0 = 1; depart 0 = ISE; pass 1; depart 0 = 0");
        e.run(AT_STOP + "pass 9; speedOf 0 = 0; stopOf 0 = 0; depart 0 = 0; pass 1; speedOf 0 = 1");
        e.run("platform 300; train 300; depart 0 = ISE; departures 0 = 0");
        // The STOP alone is gone: those in it, and those who wait, stay.
        e.run(AT_STOP + """
            rate 0 9; bar true 0 3; slip 0 1; open 0 0; pass 3; people 0 = 12; waiting 0 = 15; shut 0; depart 0 = 0
            people 0 = 12; waiting 0 = 15; doors 0 = none; slip 0 1 = 1; bar true 0 3 = 3; rate 0 9 = 9; speedOf 0 = 0
            """);
    }

    private void gaps() {
        e.says("Terms", "The gap of a PLATFORM is how many ticks the latest departure from it "
            + "was behind the one before that.");
        e.run("""
            platform 300; train 300; gap 0 = none
            stop 0 0; pass 3; depart 0; departures 0 = 1; gap 0 = none
            stop 0 0; gap 0 = none; pass 7; gap 0 = none; depart 0; departures 0 = 2; gap 0 = 7
            stop 0 0; pass 2; gap 0 = 7; depart 0; departures 0 = 3; gap 0 = 2
            stop 0 0; depart 0; departures 0 = 4; gap 0 = 0
            stop 0 0; pass 1; depart 0; departures 0 = 5; gap 0 = 1
            """);
        e.run("platform 300; train 300; stop 0 0; depart 0; stop 0 0; depart 0; gap 0 = 0");
        // From each PLATFORM alone, whichever train departs.
        e.run("""
            platform 300; platform 300; train 300; stop 0 0; pass 1; depart 0; stop 0 1; pass 2; depart 0
            gap 0 = none; gap 1 = none; departures 0 = 1; departures 1 = 1
            stop 0 0; pass 4; depart 0; gap 0 = 6; gap 1 = none
            """);
        e.run("""
            platform 300; train 300; stop 0 0; depart 0; gap 0 = none
            pass 20; train 300 = 1; stop 1 0; depart 1 = 0; gap 0 = 20; departures 0 = 2
            """);
        e.run(AT_STOP + "depart 0; stop 0 0; " + TickEdges.passed(999) + "depart 0 = 0; gap 0 = 999");
    }

    private void holding() {
        e.says("Terms", "To hold a train that is at rest makes it held for some ticks more, 99 at most, from then on.");
        e.run("train 300; hold 0 60 = 60; hold 0 38 = 98; hold 0 1 = 99; hold 0 1 = 99; held 0 = 99");
        e.run("train 300; hold 0 60 = 60; hold 0 39 = 99; held 0 = 99");
        e.run("train 300; hold 0 60 = 60; hold 0 40 = 99; held 0 = 99");
        e.run("train 300; hold 0 60 = 60; hold 0 60 = 99; pass 1; held 0 = 98; hold 0 1 = 99; hold 0 2 = 99");
        e.run("train 300; hold 0 60; hold 0 60; pass 99; held 0 = 0; speedOf 0 = 0; pass 1; speedOf 0 = 1");
        e.run("""
            train 300; hold 0 3 = 3; pass 2; hold 0 3 = 4; pass 4; speedOf 0 = 0; held 0 = 0; pass 1
            speedOf 0 = 1
            """);
        // At rest in each way: put in, ahead of a CLOSED ZONE, at its STOP, with open doors, by EMERGENCY, SILENT.
        e.run("train 300; zone 301 302; close 0 true; pass 3; hold 0 1 = 1");
        e.run(AT_STOP + "hold 0 1 = 1; open 0 0; hold 0 1 = 2; pass 1; held 0 = 1; silent 0 true; hold 0 4 = 5");
        e.run("train 300; pass 3; hold 0 1 = ISE; emergency 0; hold 0 1 = ISE; pass 1; hold 0 1 = 1");
    }

    private void stop() {
        e.says("Promise 14", "Tells a STOP.");
        e.run("platform 900; platform 320; train 300; stop 0 1; stopOf 0 = 1; pass 99; speedOf 0 = 0; high 0 = 321");

        e.says("Promise 14", "Throws `IndexOutOfBoundsException` as told, of the train and PLATFORM");
        e.run("""
            stop 0 0 = IOOBE; platform 900; platform 900; stop 0 0 = IOOBE; train 300
            stop 0 2 = IOOBE; stop 0 -1 = IOOBE; stop 0 least = IOOBE; stop 0 greatest = IOOBE
            stop 1 0 = IOOBE; stop -1 0 = IOOBE; stop least 0 = IOOBE; stop greatest 0 = IOOBE
            stop 1 1 = IOOBE; stop 0 1 = nothing
            """);
        e.run("""
            train 300; train 600; stop 0 0 = IOOBE; platform 900; stop 1 1 = IOOBE; stop 0 1 = IOOBE
            stop 1 0 = nothing
            """);
        e.run("train 300; platform 900; silent 0 true; stop 0 1 = IOOBE; stop 1 0 = IOOBE; stop 0 0 = ISE");

        e.says("Promise 14", "Throws `IllegalStateException` if it is SILENT, does not keep it, or has open doors");
        e.run(AT_STOP + "platform 900; silent 0 true; stop 0 1 = ISE; stop 0 0 = ISE; stopOf 0 = 0");
        e.run(AT_STOP + "platform 298; stop 0 1 = ISE; stopOf 0 = 0");
        e.run(AT_STOP + """
            platform 900; open 0 0; stop 0 1 = ISE; stop 0 0 = ISE; stopOf 0 = 0; shut 0; stop 0 1; stopOf 0 = 1
            """);
        e.run(AT_STOP + "platform 900; bar true 0 15; open 0 0 = 0; stop 0 1 = ISE; shut 0; stop 0 1; stopOf 0 = 1");
    }

    private void bar() {
        e.says("Promise 15", "Bars doors, in place of those barred ahead; open ones stay as they are.");
        e.run(AT_STOP + "bar true 0 1; bar true 0 2 = 1; bar true 0 2 = 2; open 0 0 = 13");
        e.run(AT_STOP + "bar false 0 1; bar false 0 2 = 1; bar false 0 2 = 2; open 0 0 = 13");
        e.run(AT_STOP + "open 0 0; bar true 0 15; doors 0 = 15; bar false 0 15; doors 0 = 15; shut 0; open 0 0 = 0");
        e.run(AT_STOP + "bar true 0 15; open 0 0 = 0; bar true 0 0; doors 0 = 0; shut 0; open 0 0 = 15");
        e.run("platform 300; train 300; pass 1; bar true 0 9 = 0; bar false 0 9 = 0; bar true 0 0 = 9");

        e.says("Promise 15", "`number`: of a train or a PLATFORM");
        e.run("""
            bar true 0 0 = IOOBE; bar false 0 0 = IOOBE
            train 300; bar true 0 0 = 0; bar false 0 0 = IOOBE; platform 300; bar false 0 0 = 0
            """);

        e.says("Promise 15", "`doors`: 0 to 15");
        e.run(AT_STOP + """
            bar true 0 least = IAE; bar true 0 -1 = IAE; bar true 0 0 = 0; bar true 0 15 = 0; bar true 0 16 = IAE
            bar true 0 greatest = IAE; bar true 0 0 = 15
            bar false 0 least = IAE; bar false 0 -1 = IAE; bar false 0 0 = 0; bar false 0 15 = 0; bar false 0 16 = IAE
            bar false 0 greatest = IAE; bar false 0 0 = 15
            """);

        e.says("Promise 15", "Returns which were barred.");
        e.run("""
            train 300; train 600; platform 300; platform 600
            bar true 0 3 = 0; bar true 1 5 = 0; bar false 0 6 = 0; bar false 1 9 = 0
            bar true 0 0 = 3; bar true 1 0 = 5; bar false 0 0 = 6; bar false 1 0 = 9
            bar true 0 0 = 0; bar true 1 0 = 0; bar false 0 0 = 0; bar false 1 0 = 0
            """);

        e.says("Promise 15", "Throws `IndexOutOfBoundsException` as told, of the train or PLATFORM");
        e.run("""
            train 300; platform 300; platform 300
            bar true 1 0 = IOOBE; bar true 2 0 = IOOBE; bar true -1 0 = IOOBE; bar true least 0 = IOOBE
            bar true greatest 0 = IOOBE; bar false 1 0 = 0; bar false 2 0 = IOOBE; bar false -1 0 = IOOBE
            bar false least 0 = IOOBE; bar false greatest 0 = IOOBE
            """);
        e.run("train 300; train 600; platform 300; bar true 1 0 = 0; bar false 1 0 = IOOBE; bar true 2 0 = IOOBE");

        e.says("Promise 15", "Throws `IllegalArgumentException` as told");
        e.run(AT_STOP + """
            bar true 0 4; bar true 0 16 = IAE; bar false 0 -1 = IAE; bar true 1 16 = IOOBE; bar true 0 4 = 4
            """);
    }

    private void open() {
        e.says("Promise 16", "Opens doors.");
        e.run(AT_STOP + "doors 0 = none; open 0 0 = 15; doors 0 = 15");

        e.says("Promise 16", "`off`: 0 to 120: how many get off");
        e.run(AT_STOP + """
            open 0 least = IAE; open 0 -1 = IAE; open 0 121 = IAE; open 0 greatest = IAE; doors 0 = none
            open 0 0 = 15; shut 0; open 0 120 = 15; shut 0; open 0 1 = 15; shut 0; open 0 119 = 15
            """);

        e.says("Promise 16", "Returns the set of those that open.");
        e.run(AT_STOP + "open 0 0 = 15; shut 0; bar true 0 1; open 0 0 = 14; shut 0; bar false 0 8; open 0 0 = 6");
        e.run(AT_STOP + "bar true 0 7; bar false 0 15; open 0 0 = 0; shut 0; bar false 0 7; open 0 0 = 8");

        e.says("Promise 16", "Throws `IndexOutOfBoundsException` as told");
        e.run("open 0 0 = IOOBE; " + AT_STOP + """
            platform 300; open 1 0 = IOOBE; open 1 121 = IOOBE; open -1 0 = IOOBE; open least 0 = IOOBE
            open greatest 0 = IOOBE; open 0 0 = 15
            """);

        e.says("Promise 16", "Throws `IllegalArgumentException` as told");
        e.run("""
            train 300; open 0 121 = IAE; open 0 -1 = IAE; open 0 120 = ISE; pass 1; open 0 121 = IAE
            open 0 0 = ISE
            """);
        e.run(AT_STOP + """
            rate 0 8; open 0 0; pass 1; open 0 121 = IAE; shut 0; open 0 121 = IAE; open 0 -1 = IAE
            people 0 = 8
            """);

        e.says("Promise 16", "Throws `IllegalStateException` if it has no STOP, or is not AT it, or they are open");
        e.run("platform 300; train 300; open 0 0 = ISE; open 0 120 = ISE; doors 0 = none; pass 1; open 0 0 = ISE");
        e.run("platform 302; train 300; stop 0 0; open 0 0 = ISE; doors 0 = none; pass 1; open 0 0 = ISE");
        e.run(AT_STOP + """
            depart 0; open 0 0 = ISE; stop 0 0; open 0 0 = 15; open 0 0 = ISE; open 0 120 = ISE; doors 0 = 15
            """);
        e.run(AT_STOP + "rate 0 8; open 0 0; pass 1; people 0 = 8; open 0 8 = ISE; people 0 = 8");
    }

    private void shut() {
        e.says("Promise 17", "Shuts the doors.");
        e.run(AT_STOP + "open 0 0; shut 0 = nothing; doors 0 = none; stopOf 0 = 0; rate 0 9; pass 1; people 0 = 0");
        e.run(AT_STOP + "rate 0 8; open 0 0; pass 1; shut 0; people 0 = 8; open 0 0 = 15; people 0 = 8");

        e.says("Promise 17", "Throws `IndexOutOfBoundsException` as told");
        e.run("shut 0 = IOOBE; " + AT_STOP + """
            platform 300; open 0 0; shut 1 = IOOBE; shut -1 = IOOBE; shut least = IOOBE; shut greatest = IOOBE
            doors 0 = 15; shut 0 = nothing
            """);

        e.says("Promise 17", "Throws `IllegalStateException` if they are shut");
        e.run(AT_STOP + "shut 0 = ISE; open 0 0; shut 0 = nothing; shut 0 = ISE; pass 1; shut 0 = ISE");
        e.run(AT_STOP + "bar true 0 15; shut 0 = ISE; open 0 0 = 0; shut 0 = nothing; shut 0 = ISE");
        e.run("train 300; shut 0 = ISE; pass 1; shut 0 = ISE; train 180 = 1; shut 1 = ISE");
    }

    private void hold() {
        e.says("Promise 18", "Holds a train.");
        e.run("train 300; train 900; hold 0 2; held 0 = 2; held 1 = 0; pass 2; place 0 = 300; place 1 = 903");

        e.says("Promise 18", "`ticks`: 1 to 60");
        e.run("""
            train 300; hold 0 least = IAE; hold 0 -1 = IAE; hold 0 0 = IAE; hold 0 61 = IAE; hold 0 greatest = IAE
            held 0 = 0; hold 0 1 = 1; hold 0 59 = 60; hold 0 0 = IAE; hold 0 61 = IAE
            """);
        e.run("train 300; hold 0 60 = 60; held 0 = 60");
        e.run("train 300; hold 0 2 = 2; hold 0 61 = IAE; held 0 = 2");

        e.says("Promise 18", "Returns for how many it is held then.");
        e.run("train 300; hold 0 5 = 5; hold 0 6 = 11; pass 1; hold 0 1 = 11; hold 0 60 = 71; hold 0 60 = 99");

        e.says("Promise 18", "Throws `IndexOutOfBoundsException` as told");
        e.run("""
            hold 0 1 = IOOBE; train 300; platform 300; platform 300; hold 1 1 = IOOBE; hold 1 0 = IOOBE
            hold -1 1 = IOOBE; hold least 1 = IOOBE; hold greatest 1 = IOOBE; hold 0 1 = 1
            """);

        e.says("Promise 18", "Throws `IllegalArgumentException` as told");
        e.run("train 300; pass 1; hold 0 0 = IAE; hold 0 61 = IAE; hold 0 1 = ISE; hold 1 61 = IOOBE");

        e.says("Promise 18", "Throws `IllegalStateException` if its speed is above 0");
        e.run("train 300; pass 1; speedOf 0 = 1; hold 0 1 = ISE; hold 0 60 = ISE; held 0 = 0; pass 1; speedOf 0 = 2");
        e.run("train 300; slip 0 -1; pass 1; place 0 = 300; speedOf 0 = 1; hold 0 1 = ISE");
        e.run("train 300; hold 0 1 = 1; pass 1; speedOf 0 = 0; hold 0 1 = 1; pass 2; speedOf 0 = 1; hold 0 1 = ISE");
    }

    private void depart() {
        e.says("Promise 19", "Lets a train depart.");
        e.run(AT_STOP + "depart 0; stopOf 0 = none; pass 1; speedOf 0 = 1; departures 0 = 1");

        e.says("Promise 19", "Returns the PLATFORM.");
        e.run("""
            platform 300; platform 300; platform 300; train 300; stop 0 2; depart 0 = 2; stop 0 0; depart 0 = 0
            stop 0 1; depart 0 = 1; departures 0 = 1; departures 1 = 1; departures 2 = 1
            """);

        e.says("Promise 19", "Throws `IndexOutOfBoundsException` as told");
        e.run("depart 0 = IOOBE; " + AT_STOP + """
            platform 300; depart 1 = IOOBE; depart -1 = IOOBE; depart least = IOOBE; depart greatest = IOOBE
            departures 0 = 0; depart 0 = 0
            """);

        e.says("Promise 19", "Throws `IllegalStateException` if it does not");
        e.run("platform 300; train 300; depart 0 = ISE; pass 1; depart 0 = ISE; departures 0 = 0");
        e.run("platform 302; train 300; stop 0 0; depart 0 = ISE; departures 0 = 0; stopOf 0 = 0");
        e.run("platform 301; train 300; stop 0 0; pass 1; depart 0 = ISE; pass 1; depart 0 = 0");
        e.run(AT_STOP + """
            open 0 0; depart 0 = ISE; shut 0; hold 0 1; depart 0 = ISE; open 0 0; depart 0 = ISE; pass 1
            depart 0 = ISE; shut 0; depart 0 = 0; depart 0 = ISE; departures 0 = 1
            """);
        // Nothing has changed: the departure behind it is the first one.
        e.run(AT_STOP + """
            hold 0 1; depart 0 = ISE; pass 5; depart 0 = 0; gap 0 = none; stop 0 0; hold 0 1; pass 2; open 0 0
            depart 0 = ISE; pass 2; shut 0; depart 0 = 0; gap 0 = 4
            """);
    }

    private void rate() {
        e.says("Promise 20", "Tells a rate.");
        e.run("""
            platform 300; platform 600; rate 1 4; pass 2; waiting 0 = 0; waiting 1 = 8; rate 1 1; pass 2
            waiting 1 = 10
            """);

        e.says("Promise 20", "`rate`: 0 to 9");
        e.run("""
            platform 300; rate 0 least = IAE; rate 0 -1 = IAE; rate 0 0 = 0; rate 0 1 = 0; rate 0 9 = 1; rate 0 10 = IAE
            rate 0 greatest = IAE; pass 1; waiting 0 = 9; rate 0 8 = 9
            """);

        e.says("Promise 20", "Returns what it was.");
        e.run("""
            platform 300; platform 300; rate 0 3 = 0; rate 1 5 = 0; rate 0 3 = 3; rate 0 0 = 3; rate 1 0 = 5
            rate 0 0 = 0
            """);

        e.says("Promise 20", "Throws `IndexOutOfBoundsException` as told");
        e.run("""
            rate 0 1 = IOOBE; platform 300; train 300; train 600; rate 1 1 = IOOBE; rate 1 10 = IOOBE; rate -1 1 = IOOBE
            rate least 1 = IOOBE; rate greatest 1 = IOOBE; rate 0 1 = 0
            """);

        e.says("Promise 20", "Throws `IllegalArgumentException` as told");
        e.run("platform 300; rate 0 6; rate 0 10 = IAE; rate 0 -1 = IAE; rate 1 -1 = IOOBE; pass 1; waiting 0 = 6");
    }

    private void platformIs() {
        e.says("Promise 21", "Returns what a PLATFORM is: 0 its mark, 1 how many wait, "
            + "2 how many departures there were, 3 its gap, NONE with fewer than two");
        e.run("""
            platform 300; platformIs 0 0 = 300; platformIs 0 1 = 0; platformIs 0 2 = 0; platformIs 0 3 = none
            train 300; rate 0 7; stop 0 0; pass 2; depart 0
            platformIs 0 0 = 300; platformIs 0 1 = 14; platformIs 0 2 = 1; platformIs 0 3 = none
            stop 0 0; pass 3; depart 0
            platformIs 0 0 = 300; platformIs 0 1 = 35; platformIs 0 2 = 2; platformIs 0 3 = 3
            """);

        e.says("Promise 21", "`what`: 0 to 3");
        e.run("""
            platform 300; platformIs 0 least = IAE; platformIs 0 -1 = IAE; platformIs 0 0 = 300; platformIs 0 3 = none
            platformIs 0 4 = IAE; platformIs 0 greatest = IAE
            """);

        e.says("Promise 21", "Throws `IndexOutOfBoundsException` as told");
        e.run("""
            platformIs 0 0 = IOOBE; platform 300; train 300; train 600; platformIs 1 0 = IOOBE; platformIs 1 4 = IOOBE
            platformIs -1 0 = IOOBE; platformIs least 0 = IOOBE; platformIs greatest 0 = IOOBE; platformIs 0 0 = 300
            """);

        e.says("Promise 21", "Throws `IllegalArgumentException` as told");
        e.run("platform 300; platformIs 0 4 = IAE; platformIs 0 -1 = IAE; platformIs 1 -1 = IOOBE");
    }
}
