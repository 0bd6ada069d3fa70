/** The line, and promises 1 to 7. */
final class LineEdges {
    private final Edges e;

    private LineEdges(Edges e) {
        this.e = e;
    }

    static void ask(Edges e) {
        LineEdges edges = new LineEdges(e);
        edges.endsOfTheLine();
        edges.lineSpeed();
        edges.numbersOfTheLine();
        edges.whatIsThereAtFirst();
        edges.exceptions();
        edges.aNewObject();
        edges.platform();
        edges.beacon();
        edges.works();
        edges.zone();
        edges.close();
        edges.closeDealsOutAnew();
        edges.closingByWhatTrainsCover();
        edges.closingByWhatTrainsKeep();
        edges.closingBeyondSilentOnes();
        edges.speed();
    }

    private void endsOfTheLine() {
        e.says("Terms", "The line goes from the metre 0 to the metre 5000");
        e.run("""
            beacon -1 = IAE
            beacon 0 = 0
            beacon 5000 = 1
            beacon 5001 = IAE
            zone -1 5000 = IAE
            zone 0 5001 = IAE
            zone 0 5000 = 0
            platform 5001 = IAE
            platform 5000 = 0
            train 5001 = IAE
            train 5000 = 0
            limit 0 = 5000
            pass 9 = 9
            place 0 = 5000; low 0 = 5000; high 0 = 5000; speedOf 0 = 0
            """);
        // The WAY TO STOP of 1 is 2: from 4999 there is none, from 4998 there is just that.
        e.run("train 4999; pass 9; place 0 = 4999; high 0 = 4999; speedOf 0 = 0");
        e.run("""
            train 4998
            pass 1; speedOf 0 = 1; place 0 = 4999; high 0 = 5000
            pass 1; speedOf 0 = 0; place 0 = 4999; high 0 = 5000
            """);
        e.run("train 4998; slip 0 1; pass 9; place 0 = 5000; high 0 = 5000; isSafe = true");

        e.says("Terms", "all go toward the greater ones");
        e.run("train 100; pass 1; place 0 = 101; pass 1; place 0 = 103; pass 1; place 0 = 106");
    }

    private void lineSpeed() {
        e.says("Terms", "There is a line speed, in metres a tick, 1 to 20, 15 at first.");
        e.run("""
            train 100
            pass 14; speedOf 0 = 14
            pass 1; speedOf 0 = 15
            pass 1; speedOf 0 = 15
            speed 15 = 15
            """);
        e.run("speed 1 = 15; train 100; pass 1; speedOf 0 = 1; pass 1; speedOf 0 = 1; pass 1; high 0 = 106");
        e.run("""
            speed 20 = 15; train 100
            pass 19; speedOf 0 = 19
            pass 1; speedOf 0 = 20
            pass 1; speedOf 0 = 20
            """);
    }

    private void numbersOfTheLine() {
        e.says("Terms", "PLATFORMS are numbered from 0, at most 6, each with a mark, a metre.");
        e.run("""
            mark 0 = IOOBE
            platform 100 = 0; mark 1 = IOOBE
            platform 101 = 1; platform 102 = 2; platform 103 = 3
            platform 100 = 4; mark 5 = IOOBE
            platform 105 = 5; mark 6 = IOOBE
            platform 106 = ISE; mark 6 = IOOBE; mark -1 = IOOBE
            mark 0 = 100; mark 1 = 101; mark 2 = 102; mark 3 = 103; mark 4 = 100; mark 5 = 105
            """);

        e.says("Terms", "BEACONS are numbered from 0, at most 12, each at a metre");
        e.run("""
            works 0 true = IOOBE
            beacon 1 = 0; works 0 true = true; works 1 true = IOOBE
            beacon 2 = 1; beacon 3 = 2; beacon 4 = 3; beacon 5 = 4; beacon 6 = 5; beacon 7 = 6; beacon 8 = 7
            beacon 9 = 8; beacon 10 = 9
            beacon 1 = 10; works 11 true = IOOBE
            beacon 12 = 11; works 11 true = true; works 12 true = IOOBE
            beacon 13 = ISE; works 12 true = IOOBE; works -1 true = IOOBE
            """);
        // Only the last of twelve is met: it stands where its metre says.
        e.run("""
            beacon 0; beacon 0; beacon 0; beacon 0; beacon 0; beacon 0; beacon 0; beacon 0; beacon 0; beacon 0; beacon 0
            beacon 103 = 11
            train 100
            pass 1; high 0 = 102
            pass 1; high 0 = 103; low 0 = 103
            """);

        e.says("Terms", "ZONES are numbered from 0, at most 4, each from a metre to a greater one");
        e.run("""
            close 0 true = IOOBE
            zone 0 1 = 0; close 0 true = false; close 1 true = IOOBE
            zone 2000 3000 = 1; zone 2000 3000 = 2; close 3 true = IOOBE
            zone 4999 5000 = 3; close 3 true = false; close 4 true = IOOBE
            zone 10 20 = ISE; close 4 true = IOOBE; close -1 true = IOOBE
            """);
    }

    private void whatIsThereAtFirst() {
        e.says("Terms", "they work at first");
        e.run("beacon 101; train 100; pass 1; low 0 = 101; high 0 = 101; works 0 true = true");

        e.says("Terms", "a ZONE is CLOSED, or not, not at first.");
        e.run("zone 50 300; train 200 = 0; limit 0 = 5000; close 0 false = false");
        e.run("zone 250 300; train 200 = 0; limit 0 = 5000; close 0 true = false; limit 0 = 250; close 0 true = true");
    }

    private void exceptions() {
        e.says("Terms", "When a call throws, nothing has changed; "
            + "of several exceptions it is the first one of the throws clause.");
        e.run("""
            platform 100; platform 200; platform 300; platform 400; platform 500; platform 600
            platform 99 = IAE; platform 5001 = IAE; platform 100 = ISE
            beacon 1; beacon 1; beacon 1; beacon 1; beacon 1; beacon 1; beacon 1; beacon 1; beacon 1; beacon 1; beacon 1
            beacon 1
            beacon -1 = IAE; beacon 5001 = IAE; beacon 0 = ISE
            zone 1 2; zone 1 2; zone 1 2; zone 1 2
            zone -1 2 = IAE; zone 5000 5001 = IAE; zone 1 1 = IAE; zone 1 5001 = IAE; zone 1 2 = ISE
            train 200; train 400; train 600; train 800; train 1000
            train 99 = IAE; train 5001 = IAE; train 5000 = ISE
            """);
        e.run("""
            trainIs 0 -1 = IOOBE; trainIs 0 11 = IOOBE; slip 0 2 = IOOBE; stop 0 0 = IOOBE
            bar true 0 16 = IOOBE; bar false 0 16 = IOOBE; bar true 0 -1 = IOOBE; bar false 0 -1 = IOOBE
            open 0 121 = IOOBE; open 0 -1 = IOOBE; hold 0 0 = IOOBE; hold 0 61 = IOOBE; rate 0 10 = IOOBE
            rate 0 -1 = IOOBE; platformIs 0 4 = IOOBE; platformIs 0 -1 = IOOBE; record 0 0 = IOOBE; record 0 1 = IOOBE
            """);
        e.run("""
            train 300; platform 300; train 600
            open 0 121 = IAE; open 0 -1 = IAE      # it has no STOP either
            open 2 121 = IOOBE; open 2 0 = IOOBE
            pass 1
            hold 0 61 = IAE; hold 0 0 = IAE        # its speed is above 0, too
            hold 2 61 = IOOBE; hold 2 1 = IOOBE
            open 0 121 = IAE
            silent 0 true
            stop 0 1 = IOOBE; stop 2 0 = IOOBE; stop 2 1 = IOOBE; stop 0 0 = ISE
            """);

        e.says("Terms", "IndexOutOfBoundsException: there is no such train, PLATFORM, BEACON or ZONE.");
        e.run("""
            train 300; train 600; platform 300; platform 600; platform 900; beacon 5; zone 10 20
            trainIs 1 0 = 600; trainIs 2 0 = IOOBE; trainIs -1 0 = IOOBE
            trainIs least 0 = IOOBE; trainIs greatest 0 = IOOBE
            platformIs 2 0 = 900; platformIs 3 0 = IOOBE; platformIs -1 0 = IOOBE
            platformIs least 0 = IOOBE; platformIs greatest 0 = IOOBE
            works 0 true = true; works 1 true = IOOBE; works -1 true = IOOBE
            works least true = IOOBE; works greatest true = IOOBE
            close 0 true = false; close 1 true = IOOBE; close -1 true = IOOBE
            close least true = IOOBE; close greatest true = IOOBE
            """);

        e.says("Terms", "IllegalArgumentException: another argument is out of its range.");
        e.run("""
            train 300; platform 300
            trainIs 0 11 = IAE; trainIs 0 -1 = IAE; slip 0 2 = IAE; slip 0 -2 = IAE; speed 0 = IAE; speed 21 = IAE
            bar true 0 16 = IAE; bar false 0 16 = IAE; open 0 121 = IAE; hold 0 61 = IAE; rate 0 10 = IAE
            platformIs 0 4 = IAE; record 0 1 = IAE; pass 100 = IAE; platform 99 = IAE; beacon -1 = IAE; zone 9 9 = IAE
            train 99 = IAE
            """);

        e.says("Terms", "The constants: `NONE = -1`: There is none.");
        e.run("train 100; platform 100; stopOf 0 = -1; doors 0 = -1; gap 0 = -1");
        e.run("pass 1; train 100; record 0 1 = -1");
    }

    private void aNewObject() {
        e.says("Promise 1", "Begins with the tick 0, without anything on the line.");
        e.run("pass 1 = 1");
        e.run("train 100; record 0 0 = IAE; record 0 1 = IAE; pass 1 = 1; record 0 1 = 1; record 0 2 = IAE");
        e.run("""
            trainIs 0 0 = IOOBE; platformIs 0 0 = IOOBE; works 0 true = IOOBE; works 0 false = IOOBE
            close 0 true = IOOBE; close 0 false = IOOBE; silent 0 true = IOOBE; emergency 0 = IOOBE; shut 0 = IOOBE
            depart 0 = IOOBE; placeAnew 0 = IOOBE; isSafe = true
            """);
    }

    private void platform() {
        e.says("Promise 2", "Adds a PLATFORM.");
        e.run("""
            platform 300 = 0; mark 0 = 300; waiting 0 = 0; departures 0 = 0; gap 0 = none
            rate 0 0 = 0; bar false 0 0 = 0
            """);

        e.says("Promise 2", "`mark`: 100 to 5000");
        e.run("""
            platform least = IAE; platform -1 = IAE; platform 0 = IAE; platform 99 = IAE
            platform 100 = 0; platform 101 = 1; platform 4999 = 2; platform 5000 = 3
            platform 5001 = IAE; platform greatest = IAE
            mark 0 = 100; mark 1 = 101; mark 2 = 4999; mark 3 = 5000
            """);

        e.says("Promise 2", "Returns its number.");
        e.run("platform 500 = 0; platform 400 = 1; platform 500 = 2");

        e.says("Promise 2", "Throws `IllegalArgumentException` as told");
        e.run("platform 99 = IAE; platform 5001 = IAE; platform 200 = 0; platform 99 = IAE; mark 1 = IOOBE");

        e.says("Promise 2", "Throws `IllegalStateException` if there are 6");
        e.run("""
            platform 100; platform 100; platform 100; platform 100; platform 100 = 4
            platform 5000 = 5
            platform 5000 = ISE; platform 100 = ISE; platform 5001 = IAE
            """);
    }

    private void beacon() {
        e.says("Promise 3", "Adds a BEACON.");
        e.run("beacon 101 = 0; train 100; pass 1; low 0 = 101; high 0 = 101");

        e.says("Promise 3", "`metre`: 0 to 5000");
        e.run("""
            beacon least = IAE; beacon -1 = IAE
            beacon 0 = 0; beacon 1 = 1; beacon 4999 = 2; beacon 5000 = 3
            beacon 5001 = IAE; beacon greatest = IAE
            """);
        e.run("beacon 5000; train 4998; slip 0 1; pass 1; place 0 = 5000; low 0 = 5000; high 0 = 5000");

        e.says("Promise 3", "Returns its number.");
        e.run("beacon 500 = 0; beacon 400 = 1; beacon 500 = 2");

        e.says("Promise 3", "Throws `IllegalArgumentException` as told");
        e.run("beacon 5001 = IAE; beacon 101 = 0; beacon -1 = IAE; works 1 true = IOOBE");

        e.says("Promise 3", "Throws `IllegalStateException` if there are 12");
        e.run("""
            beacon 9; beacon 9; beacon 9; beacon 9; beacon 9; beacon 9; beacon 9; beacon 9; beacon 9; beacon 9
            beacon 9 = 10
            beacon 9 = 11
            beacon 9 = ISE; beacon 0 = ISE; beacon 5000 = ISE; beacon 5001 = IAE; beacon -1 = IAE
            """);
    }

    private void works() {
        e.says("Promise 4", "Tells whether a BEACON works.");
        e.run("""
            beacon 101; train 100
            works 0 false = true
            pass 1; low 0 = 100; high 0 = 102
            works 0 true = false            # the train is at it by now
            pass 1; low 0 = 101; high 0 = 105
            """);
        e.run("beacon 101; beacon 101; works 1 false; train 100; pass 1; low 0 = 101; high 0 = 101");
        e.run("beacon 101; works 0 false; works 0 true; train 100; pass 1; low 0 = 101; high 0 = 101");

        e.says("Promise 4", "Returns whether it did.");
        e.run("""
            beacon 7; beacon 7
            works 0 true = true; works 0 false = true; works 0 false = false; works 0 true = false; works 0 true = true
            works 1 false = true; works 0 false = true; works 1 true = false
            """);

        e.says("Promise 4", "Throws `IndexOutOfBoundsException` as told");
        e.run("""
            works 0 true = IOOBE; works 0 false = IOOBE
            beacon 7; train 300; platform 300; zone 1 2; platform 300; train 600
            works 0 false = true; works 1 false = IOOBE; works 1 true = IOOBE; works -1 false = IOOBE
            works least true = IOOBE; works greatest false = IOOBE
            """);
    }

    private void zone() {
        e.says("Promise 5", "Adds a ZONE.");
        e.run("zone 500 600 = 0; train 400; close 0 true = false; limit 0 = 500; train 700 = ISE; train 701 = 1");

        e.says("Promise 5", "`from`: 0 to 4999");
        e.run("""
            zone least 5 = IAE; zone -1 5 = IAE
            zone 0 5 = 0; zone 1 5 = 1; zone 4998 5000 = 2; zone 4999 5000 = 3
            """);
        e.run("""
            zone 5000 5000 = IAE; zone 5000 5001 = IAE; zone 5001 5002 = IAE
            zone greatest greatest = IAE; zone greatest least = IAE; zone least least = IAE; zone least greatest = IAE
            """);

        e.says("Promise 5", "`to`: from and 1 to 5000");
        e.run("""
            zone 10 least = IAE; zone 10 0 = IAE; zone 10 9 = IAE; zone 10 10 = IAE
            zone 10 11 = 0; zone 10 12 = 1; zone 10 4999 = 2; zone 10 5000 = 3
            """);
        e.run("""
            zone 10 5001 = IAE; zone 10 greatest = IAE; zone 0 0 = IAE; zone 0 -1 = IAE
            zone 4999 4999 = IAE; zone 4999 5001 = IAE; zone 4999 5000 = 0; zone 0 1 = 1
            """);

        e.says("Promise 5", "Returns its number.");
        e.run("zone 500 600 = 0; zone 400 700 = 1; zone 500 600 = 2");

        e.says("Promise 5", "Throws `IllegalArgumentException` as told");
        e.run("zone 5000 5001 = IAE; zone 5 5 = IAE; zone 5 6 = 0; zone 6 6 = IAE; close 1 false = IOOBE");

        e.says("Promise 5", "Throws `IllegalStateException` if there are 4");
        e.run("""
            zone 1 2; zone 1 2; zone 1 2 = 2
            zone 1 2 = 3
            zone 1 2 = ISE; zone 0 5000 = ISE; zone 2 2 = IAE; zone -1 2 = IAE; close 4 false = IOOBE
            """);
    }

    private void close() {
        e.says("Promise 6", "Closes a ZONE, or opens it");
        e.run("""
            train 100; zone 300 400
            close 0 true; limit 0 = 300; train 450 = ISE
            close 0 false; limit 0 = 5000; train 450 = 1
            """);

        e.says("Promise 6", "Returns whether it was CLOSED.");
        e.run("""
            zone 300 400; zone 300 400
            close 0 false = false; close 0 true = false; close 0 true = true; close 0 false = true
            close 0 false = false; close 1 true = false; close 0 true = false; close 1 false = true
            """);

        e.says("Promise 6", "Throws `IndexOutOfBoundsException` as told");
        e.run("""
            close 0 true = IOOBE; close 0 false = IOOBE
            zone 1 2; train 300; platform 300; beacon 9; beacon 9; platform 300; train 600
            close 0 true = false; close 1 true = IOOBE; close 1 false = IOOBE; close -1 true = IOOBE
            close -1 false = IOOBE; close least true = IOOBE; close greatest false = IOOBE
            """);

        e.says("Promise 6", "Throws `IllegalStateException` if it is to be CLOSED, is not, and cannot be");
        // A train whose HIGH is the beginning of a CLOSED ZONE: it could not be CLOSED, but is.
        e.run("""
            train 100; zone 102 200; close 0 true = false; pass 2; high 0 = 102; limit 0 = 102
            close 0 true = true
            close 0 false = true
            close 0 true = ISE
            close 0 false = false; limit 0 = 5000
            """);
        e.run("train 100; zone 50 200; close 0 false = false; close 0 true = ISE; close 0 false = false");
    }

    private void closeDealsOutAnew() {
        // A train that was SILENT while a ZONE was opened has its old LIMIT until LIMITS are dealt out anew.
        String stale = """
            train 100; zone 3000 3100; zone 4000 4100
            close 0 true; silent 0 true; close 0 false; silent 0 false; limit 0 = 3000
            """;
        String staleBeforeClosed = """
            train 100; zone 3000 3100; zone 4000 4100
            close 0 true; close 1 true; silent 0 true; close 0 false; silent 0 false; limit 0 = 3000
            """;
        e.says("Promise 6", "LIMITS are dealt out anew in both cases.");
        e.run(stale + "close 1 true = false; limit 0 = 4000");
        e.run(stale + "close 1 false = false; limit 0 = 5000");
        e.run(staleBeforeClosed + "close 1 true = true; limit 0 = 4000");
        e.run(staleBeforeClosed + "close 1 false = true; limit 0 = 5000");
        e.run(stale + "zone 50 60; close 2 true = ISE; limit 0 = 3000; close 3 true = IOOBE; limit 0 = 3000");

        e.says("Terms", "the LIMITS of all that are not SILENT are what they are given then.");
        e.run("""
            train 100; train 1000; zone 500 600; zone 2000 2100
            limit 0 = 880; limit 1 = 5000
            close 0 true; limit 0 = 500; limit 1 = 5000
            close 1 true; limit 0 = 500; limit 1 = 2000
            close 0 false; limit 0 = 880; limit 1 = 2000
            """);
        e.run("""
            train 100; train 1000; zone 600 601; close 0 true; limit 0 = 600; silent 0 true
            close 0 false; limit 0 = 600; limit 1 = 5000
            close 0 true; limit 0 = 600; limit 1 = 5000
            """);
    }

    private void closingByWhatTrainsCover() {
        e.says("Terms", "A ZONE can be closed, if no train may cover one of its metres (its ends with them)");
        // One that is at rest with the LOW 1003, the PLACE 1006 and the HIGH 1009.
        String atRest = """
            train 1000; pass 3; emergency 0; pass 1
            speedOf 0 = 0; low 0 = 1003; place 0 = 1006; high 0 = 1009
            """;
        e.run(atRest + """
            zone 800 903; zone 800 902; zone 1009 1100; zone 1010 1100
            close 0 true = ISE; close 1 true = false; close 2 true = ISE; close 3 true = false
            limit 0 = 1010
            """);
        e.run(atRest + """
            zone 902 903; zone 903 904; zone 1008 1009; zone 1009 1010
            close 0 true = ISE; close 1 true = ISE; close 2 true = ISE; close 3 true = ISE
            """);
        e.run(atRest + """
            zone 0 5000; zone 950 951; zone 901 902; zone 1010 1011
            close 0 true = ISE; close 1 true = ISE; close 2 true = false; close 3 true = false
            """);
        // No train, whatever its number, may be in the way.
        e.run("""
            train 1000; train 2000; train 500; zone 500 501; zone 2000 2001; zone 1000 1001; zone 1001 1899
            close 0 true = ISE; close 1 true = ISE; close 2 true = ISE; close 3 true = false
            """);
        e.run("zone 0 5000; close 0 true = false; train 100 = ISE; close 0 false = true; train 100 = 0");
    }

    private void closingByWhatTrainsKeep() {
        e.says("Terms", "and each train whose HIGH is below its beginning KEEPS that");
        for (int speed = 0; speed <= 20; speed++) {
            int high = TrainEdges.highAt(speed);
            int kept = Math.max(high + 1, high + TrainEdges.wayToStop(speed));
            e.run(TrainEdges.goingAt(speed) + "zone " + (kept - 1) + " 4000; zone " + kept + " 4000\n"
                + "close 0 true = ISE; limit 0 = 5000; close 1 true = false; limit 0 = " + kept);
        }
        // Not those whose HIGH is above it: what they KEEP is far beyond.
        e.run("train 1000; zone 500 600; pass 9; close 0 true = false; limit 0 = 5000");
        // Nor by the REPORT of one that was SILENT as it went on, or is so still.
        String beyond = "train 1000; zone 1100 1200; silent 0 true; pass 40; low 0 = 1455\n";
        e.run(beyond + "silent 0 false; close 0 true = false; limit 0 = 5000");
        e.run(beyond + "close 0 true = false; limit 0 = 5000");
        // Each of them, also one with a greater number, or farther off.
        e.run("""
            train 500; train 200; pass 5
            high 0 = 520; high 1 = 220; zone 540 600; zone 539 600; zone 240 300; zone 239 300
            close 1 true = ISE; close 0 true = false; close 3 true = ISE; close 2 true = false
            limit 0 = 540; limit 1 = 240
            """);
    }

    private void closingBeyondSilentOnes() {
        e.says("Terms", "but a SILENT one, if its LIMIT is at most that metre.");
        // A SILENT one with the LIMIT 1000, far from it.
        e.run("""
            train 200; zone 1000 1001; close 0 true; silent 0 true; close 0 false; limit 0 = 1000
            zone 999 1001; zone 1001 1002; close 1 true = ISE; close 2 true = false; close 0 true = false
            limit 0 = 1000
            """);
        // One with the LIMIT 1000 that is braking: its HIGH and the WAY TO STOP of its speed are 1003.
        e.run("""
            train 990; zone 1000 1100; zone 1000 1050; zone 1003 1100; zone 1002 1100; close 0 true; pass 3
            high 0 = 998; speedOf 0 = 2; limit 0 = 1000
            close 1 true = ISE; close 3 true = ISE; close 2 true = false
            silent 0 true
            close 3 true = false; close 1 true = false; limit 0 = 1000
            pass 9; high 0 = 1000; isSafe = true
            """);
    }

    private void speed() {
        e.says("Promise 7", "Tells the line speed.");
        e.run("train 100; speed 3; pass 3; speedOf 0 = 3; pass 1; speedOf 0 = 3; speed 4; pass 2; speedOf 0 = 4");

        e.says("Promise 7", "`speed`: 1 to 20");
        e.run("""
            speed least = IAE; speed -1 = IAE; speed 0 = IAE; speed 21 = IAE; speed greatest = IAE
            speed 1 = 15; speed 0 = IAE; speed 2 = 1; speed 19 = 2; speed 20 = 19; speed 21 = IAE; speed 20 = 20
            """);

        e.says("Promise 7", "Returns what it was.");
        e.run("speed 7 = 15; speed 9 = 7; speed 9 = 9; speed 15 = 9");

        e.says("Promise 7", "Throws `IllegalArgumentException` as told");
        e.run("speed 12; train 100; pass 20; speed 0 = IAE; speed 21 = IAE; pass 1; speedOf 0 = 12; speed 5 = 12");
    }
}
