/** What is done as a tick goes by, and promise 13. */
final class TickEdges {
    private static final String MANY_WAIT = """
        platform 300; train 300; rate 0 9
        """;

    private final Edges e;

    private TickEdges(Edges e) {
        this.e = e;
    }

    static void ask(Edges e) {
        TickEdges edges = new TickEdges(e);
        edges.numbers();
        edges.reportsAndLimits();
        edges.emergencies();
        edges.restWithOpenDoorsOrHeld();
        edges.speedsByTheOldOneAndTheLine();
        edges.speedsByTheLimit();
        edges.speedsByTheStop();
        edges.going();
        edges.beacons();
        edges.holding();
        edges.waiting();
        edges.boarding();
        edges.boardingAsThereIsRoom();
        edges.pass();
    }

    private void numbers() {
        e.says("Terms", "As a tick goes by, its number is 1 more, and these are done, "
            + "each for all trains by numbers before the next:");
        e.run("pass 1 = 1; pass 1 = 2; pass 3 = 5");
        // All REPORTS are ahead of all LIMITS, whichever train has the smaller number.
        e.run("train 1000; train 880; pass 3; limit 1 = 881; pass 1; limit 1 = 883; place 1 = 881");
        e.run("train 880; train 1000; pass 3; limit 0 = 881; pass 1; limit 0 = 883; place 0 = 881");
        // All go by the LIMITS of this tick, not by what the one ahead goes in it.
        e.run("train 1000; train 880; pass 1; place 0 = 1001; place 1 = 880; pass 2; place 0 = 1006; place 1 = 880");
        e.run("train 880; train 1000; pass 1; place 1 = 1001; place 0 = 880; pass 2; place 1 = 1006; place 0 = 880");
    }

    private void reportsAndLimits() {
        e.says("Terms", "Of those that are not SILENT the REPORT becomes their LOW; "
            + "then, behind all REPORTS, their LIMITS what they are given.");
        e.run("train 1000; train 500; pass 3; limit 1 = 881; pass 1; limit 1 = 883");
        e.run("train 1000; train 500; silent 0 true; pass 3; low 0 = 1003; limit 1 = 880; pass 1; limit 1 = 880");
        e.run("train 1000; train 500; silent 1 true; pass 3; low 0 = 1003; limit 1 = 880; pass 1; limit 1 = 880");
        e.run("""
            train 1000; train 500; silent 1 true; pass 3; limit 1 = 880; silent 1 false; limit 1 = 880
            pass 1; limit 1 = 883
            """);
        e.run("train 1000; train 500; silent 0 true; silent 1 true; pass 3; limit 1 = 880; limit 0 = 5000");
    }

    private void emergencies() {
        e.says("Terms", "Each finds its new speed.");
        e.run("""
            train 300; train 900; train 1500; train 2100; hold 2 9; pass 4; emergency 1 = true; pass 1
            speedOf 0 = 5; speedOf 1 = 1; speedOf 2 = 0; speedOf 3 = 5
            """);

        e.says("Terms", "In EMERGENCY it is 3 less, 0 at least; with that at 0 the EMERGENCY ends.");
        for (int speed = 1; speed <= 20; speed++) {
            StringBuilder script = new StringBuilder(TrainEdges.goingAt(speed));
            script.append("emergency 0 = true; inEmergency 0 = 1\n");
            for (int left = speed - 3; left > 0; left -= 3) {
                script.append("pass 1; speedOf 0 = ").append(left).append("; inEmergency 0 = 1\n");
            }
            script.append("pass 1; speedOf 0 = 0; inEmergency 0 = 0; pass 1; speedOf 0 = 1; inEmergency 0 = 0");
            e.run(script.toString());
        }
        // Neither a STOP, nor the line speed, nor silence takes it back, or makes it brake more.
        e.run("""
            train 100; platform 207; pass 9; emergency 0; stop 0 0; speed 1; silent 0 true; pass 1; speedOf 0 = 6
            silent 0 false; pass 1; speedOf 0 = 3; inEmergency 0 = 1; speed 20
            pass 1; speedOf 0 = 0; inEmergency 0 = 0
            """);
    }

    private void restWithOpenDoorsOrHeld() {
        e.says("Terms", "Otherwise, with open doors, or held, it is 0 (it is at rest then).");
        e.run("""
            platform 300; train 300; stop 0 0; open 0 0; pass 1; speedOf 0 = 0; pass 50; place 0 = 300
            speedOf 0 = 0
            """);
        // There is way for it, but for the doors: its STOP leaves 2 metres from its HIGH.
        e.run("platform 301; train 300; stop 0 0; open 0 0; pass 9; place 0 = 300; shut 0; pass 1; speedOf 0 = 1");
        e.run("platform 301; train 300; stop 0 0; bar true 0 15; open 0 0 = 0; pass 9; speedOf 0 = 0; place 0 = 300");
        e.run("train 300; hold 0 1; pass 1; speedOf 0 = 0; pass 1; speedOf 0 = 1");
        e.run("train 300; pass 1; speedOf 0 = 1");
        e.run("""
            train 300; hold 0 2; pass 1; speedOf 0 = 0; pass 1; speedOf 0 = 0; pass 1; speedOf 0 = 1
            place 0 = 301
            """);
    }

    private void speedsByTheOldOneAndTheLine() {
        e.says("Terms", "Otherwise it is the greatest of at most its old one and 1, of at most the line speed or, "
            + "if that is greater, its old one less 1");
        e.run("train 300; pass 1; speedOf 0 = 1; pass 1; speedOf 0 = 2; pass 1; speedOf 0 = 3; pass 1; speedOf 0 = 4");
        String ten = "train 300; pass 10; speedOf 0 = 10\n";
        e.run(ten + "speed 12; pass 1; speedOf 0 = 11; pass 1; speedOf 0 = 12; pass 1; speedOf 0 = 12");
        e.run(ten + "speed 11; pass 1; speedOf 0 = 11; pass 1; speedOf 0 = 11");
        e.run(ten + "speed 10; pass 1; speedOf 0 = 10; pass 1; speedOf 0 = 10");
        e.run(ten + "speed 9; pass 1; speedOf 0 = 9; pass 1; speedOf 0 = 9");
        e.run(ten + "speed 8; pass 1; speedOf 0 = 9; pass 1; speedOf 0 = 8; pass 1; speedOf 0 = 8");
        e.run(ten + """
            speed 1; pass 1; speedOf 0 = 9; pass 7; speedOf 0 = 2; pass 1; speedOf 0 = 1; pass 1; speedOf 0 = 1
            """);
        e.run("speed 20; train 300; pass 20; speedOf 0 = 20; speed 1; pass 1; speedOf 0 = 19");
    }

    private void speedsByTheLimit() {
        e.says("Terms", "for which its HIGH and the WAY TO STOP of the new speed, together, are at most its LIMIT");
        for (int speed = 0; speed < 20; speed++) {
            int next = TrainEdges.highAt(speed) + TrainEdges.wayToStop(speed + 1);
            String going = TrainEdges.goingAt(speed);
            e.run(going + "zone " + next + " 4000; close 0 true; pass 1; limit 0 = " + next
                + "; speedOf 0 = " + (speed + 1));
            e.run(going + "zone " + (next - 1) + " 4000; close 0 true; pass 1; limit 0 = " + (next - 1)
                + "; speedOf 0 = " + speed);
        }
        // A train ahead at rest: the LIMIT is its REPORT less 120.
        e.run("""
            train 200; train 322; hold 1 60; limit 0 = 202; pass 1; speedOf 0 = 1; high 0 = 202; pass 1
            speedOf 0 = 0
            """);
        e.run("train 200; train 321; hold 1 60; limit 0 = 201; pass 9; speedOf 0 = 0; high 0 = 200");
        e.run("train 200; train 320; hold 1 60; limit 0 = 200; pass 9; speedOf 0 = 0; high 0 = 200; isSafe = true");
        // Braking by 1 a tick is just enough: the WAY TO STOP of 9 is 54.
        e.run("""
            train 200; pass 9; speedOf 0 = 9; high 0 = 254; zone 308 4000; close 0 true
            pass 1; speedOf 0 = 9; high 0 = 264; pass 1; speedOf 0 = 8; high 0 = 273
            pass 1; speedOf 0 = 7; high 0 = 281; pass 1; speedOf 0 = 6; high 0 = 288
            pass 1; speedOf 0 = 5; high 0 = 294; pass 1; speedOf 0 = 4; high 0 = 299
            pass 1; speedOf 0 = 3; high 0 = 303; pass 1; speedOf 0 = 2; high 0 = 306
            pass 1; speedOf 0 = 1; high 0 = 308
            pass 1; speedOf 0 = 0; high 0 = 308; isSafe = true
            """);

        e.says("Terms", "0, if there is none.");
        e.run("train 200; zone 201 300; close 0 true; pass 1; speedOf 0 = 0; place 0 = 200; record 0 1 = 0");
        e.run("train 200; zone 202 300; close 0 true; pass 1; speedOf 0 = 1; place 0 = 201; pass 1; speedOf 0 = 0");
        e.run("train 200; platform 199; stop 0 0; pass 1; speedOf 0 = 0; place 0 = 200");
    }

    private void speedsByTheStop() {
        e.says("Terms", "and, if it has a STOP, at most 1 more than the mark of that");
        for (int speed = 0; speed < 20; speed++) {
            int next = TrainEdges.highAt(speed) + TrainEdges.wayToStop(speed + 1);
            String going = TrainEdges.goingAt(speed);
            e.run(going + "platform " + (next - 1) + "; stop 0 0; pass 1; limit 0 = 5000; speedOf 0 = " + (speed + 1));
            e.run(going + "platform " + (next - 2) + "; stop 0 0; pass 1; limit 0 = 5000; speedOf 0 = " + speed);
        }
        // A LIMIT that is nearer than the STOP, and one that is farther off.
        e.run("train 200; platform 900; stop 0 0; zone 202 300; close 0 true; pass 9; high 0 = 202; stopOf 0 = 0");
        e.run("train 200; platform 201; stop 0 0; zone 300 400; close 0 true; pass 9; high 0 = 202; speedOf 0 = 0");
        e.run("train 200; platform 201; stop 0 0; zone 202 300; close 0 true; pass 9; high 0 = 202; speedOf 0 = 0");
        // Without one it goes on; with one it stays until it departs.
        e.run("train 200; platform 200; pass 1; speedOf 0 = 1");
        e.run("train 200; platform 200; stop 0 0; pass 9; place 0 = 200; depart 0; pass 1; speedOf 0 = 1");
    }

    private void going() {
        e.says("Terms", "Each goes by its new speed:");
        e.run("""
            train 900; train 300; hold 0 1
            pass 1; place 0 = 900; place 1 = 301; pass 1; place 0 = 901; place 1 = 303
            """);
        // By the new one, not by the old one: 0 ahead of the first tick, 6 ahead of an EMERGENCY's.
        e.run("train 300; speedOf 0 = 0; pass 1; speedOf 0 = 1; place 0 = 301; pass 1; speedOf 0 = 2; place 0 = 303");
        e.run("train 300; pass 6; place 0 = 321; emergency 0; pass 1; speedOf 0 = 3; place 0 = 324; record 0 7 = 3");

        e.says("Terms", "with a speed above 0 its PLACE becomes more by the speed and its slip, together, "
            + "its LOW by the speed less 1, its HIGH by the speed and 1.");
        e.run("""
            train 300; pass 1; place 0 = 301; low 0 = 300; high 0 = 302; pass 1; place 0 = 303; low 0 = 301
            high 0 = 305
            """);
        e.run("""
            train 300; slip 0 -1
            pass 1; place 0 = 300; low 0 = 300; high 0 = 302; pass 1; place 0 = 301; low 0 = 301; high 0 = 305
            """);
        e.run("""
            train 300; slip 0 1
            pass 1; place 0 = 302; low 0 = 300; high 0 = 302; pass 1; place 0 = 305; low 0 = 301; high 0 = 305
            """);
        e.run("train 300; slip 0 1; hold 0 3; pass 3; place 0 = 300; low 0 = 300; high 0 = 300; pass 1; place 0 = 302");
        e.run("train 300; slip 0 -1; hold 0 3; pass 3; place 0 = 300; low 0 = 300; high 0 = 300");
        // The slip also counts in EMERGENCY, and of a SILENT one.
        e.run("""
            train 300; slip 0 1; pass 5; place 0 = 320; emergency 0
            pass 1; speedOf 0 = 2; place 0 = 323; low 0 = 311; high 0 = 323
            """);
        e.run("""
            train 300; slip 0 -1; pass 5; place 0 = 310; silent 0 true
            pass 1; speedOf 0 = 6; place 0 = 315; low 0 = 315; high 0 = 327
            """);
        e.run("speed 20; train 300; pass 19; place 0 = 490; pass 1; place 0 = 510; low 0 = 490; high 0 = 530");
    }

    private void beacons() {
        e.says("Terms", "If a BEACON that works is above the PLACE that it had, "
            + "and at most at the one that it has, LOW and HIGH become its PLACE.");
        // From 300 to 301, then to 303.
        e.run("""
            beacon 299; beacon 300; train 300; pass 1; low 0 = 300; high 0 = 302; pass 1; low 0 = 301
            high 0 = 305
            """);
        e.run("""
            beacon 301; train 300; pass 1; place 0 = 301; low 0 = 301; high 0 = 301; pass 1; low 0 = 302
            high 0 = 304
            """);
        e.run("""
            beacon 302; train 300; pass 1; low 0 = 300; high 0 = 302; pass 1; place 0 = 303; low 0 = 303
            high 0 = 303
            """);
        e.run("""
            beacon 303; train 300; pass 1; low 0 = 300; high 0 = 302; pass 1; place 0 = 303; low 0 = 303
            high 0 = 303
            """);
        e.run("""
            beacon 304; train 300; pass 2; low 0 = 301; high 0 = 305; pass 1; place 0 = 306; low 0 = 306
            high 0 = 306
            """);
        // By its PLACE with the slip, not by its LOW or its HIGH.
        e.run("beacon 302; train 300; slip 0 -1; pass 1; place 0 = 300; low 0 = 300; high 0 = 302");
        e.run("""
            beacon 300; beacon 301; train 300; slip 0 -1; pass 1; low 0 = 300; high 0 = 302; pass 1; low 0 = 301
            high 0 = 301
            """);
        e.run("beacon 302; train 300; slip 0 1; pass 1; place 0 = 302; low 0 = 302; high 0 = 302");
        e.run("beacon 303; train 300; slip 0 1; pass 1; low 0 = 300; high 0 = 302; pass 1; low 0 = 305; high 0 = 305");
        // At rest none is met, and one that does not work is not, another one there is.
        e.run("beacon 300; train 300; hold 0 5; pass 5; high 0 = 300");
        e.run("beacon 301; works 0 false; train 300; pass 1; low 0 = 300; high 0 = 302");
        e.run("beacon 301; beacon 301; works 0 false; train 300; pass 1; low 0 = 301; high 0 = 301");
        e.run("beacon 301; beacon 301; works 0 false; works 1 false; train 300; pass 1; low 0 = 300; high 0 = 302");
        // Also one that is SILENT, or in EMERGENCY.
        e.run("beacon 301; train 300; silent 0 true; pass 1; low 0 = 301; high 0 = 301");
        e.run("beacon 317; train 300; pass 5; emergency 0; pass 1; inEmergency 0 = 1; low 0 = 317; high 0 = 317");
        // Each train meets it on its own.
        e.run("beacon 301; train 300; train 900; pass 1; low 0 = 301; high 0 = 301; low 1 = 900; high 1 = 902");
        e.run("""
            beacon 303; beacon 304; train 300; pass 2; place 0 = 303; high 0 = 303
            pass 1; place 0 = 306; low 0 = 306; high 0 = 306; limit 0 = 5000; speedOf 0 = 3
            """);
    }

    private void holding() {
        e.says("Terms", "One that is held is so for a tick less.");
        e.run("""
            train 300; train 900; hold 0 2 = 2; held 0 = 2; held 1 = 0
            pass 1; held 0 = 1; held 1 = 0; speedOf 0 = 0
            pass 1; held 0 = 0; held 1 = 0; speedOf 0 = 0
            pass 1; held 0 = 0; held 1 = 0; speedOf 0 = 1
            """);
        e.run("train 300; hold 0 1; pass 1; held 0 = 0; pass 9; held 0 = 0");
    }

    private void waiting() {
        e.says("Terms", "At each PLATFORM as many people more wait as its rate, 0 to 9, 0 at first, to 999 at most.");
        e.run("platform 300; pass 9; waiting 0 = 0; rate 0 -1 = IAE; rate 0 10 = IAE; rate 0 0 = 0");
        e.run("platform 300; platform 300; rate 1 9; pass 1; waiting 0 = 0; waiting 1 = 9; pass 1; waiting 1 = 18");
        e.run("""
            platform 300; rate 0 1; pass 1; waiting 0 = 1; rate 0 8; pass 2; waiting 0 = 17; rate 0 0; pass 9
            waiting 0 = 17
            """);
        // 111 ticks of 9 are 999; 110 and 8 are 998.
        e.run("""
            platform 300; rate 0 9; pass 99; pass 12; waiting 0 = 999; pass 1; waiting 0 = 999; pass 99
            waiting 0 = 999
            """);
        e.run("""
            platform 300; rate 0 9; pass 99; pass 11; rate 0 8; pass 1; waiting 0 = 998
            rate 0 1; pass 1; waiting 0 = 999; pass 1; waiting 0 = 999
            """);
        e.run("""
            platform 300; rate 0 9; pass 99; pass 11; rate 0 8; pass 1; waiting 0 = 998; rate 0 2; pass 1
            waiting 0 = 999
            """);
        e.run("platform 300; rate 0 8; pass 99; pass 25; waiting 0 = 992; pass 1; waiting 0 = 999");
    }

    private void boarding() {
        e.says("Terms", "At each train with open doors, by numbers, as many board as twice its doors that are open");
        for (int barred = 0; barred <= 15; barred++) {
            int boarding = 2 * (4 - Integer.bitCount(barred));
            e.run(MANY_WAIT + "stop 0 0; pass 1; waiting 0 = 9; bar true 0 " + barred
                + "; open 0 0 = " + (15 - barred) + "; pass 1; people 0 = " + boarding
                + "; waiting 0 = " + (18 - boarding));
        }
        // With those that are open, whatever is barred since, and only until they are shut.
        e.run(MANY_WAIT + """
            stop 0 0; open 0 0; bar true 0 15; bar false 0 15; pass 1; people 0 = 8; shut 0; pass 1
            people 0 = 8
            """);
        e.run(MANY_WAIT + """
            stop 0 0; pass 5; people 0 = 0; waiting 0 = 45; open 0 0; people 0 = 0; pass 1; people 0 = 8
            """);
        e.run(MANY_WAIT + "stop 0 0; open 0 0; hold 0 9; silent 0 true; pass 1; people 0 = 8");
        // Each from where it is, and from there alone.
        e.run("""
            platform 900; platform 300; platform 300; train 300; train 900; rate 0 5; rate 1 9; rate 2 9
            stop 0 2; stop 1 0; bar true 1 1; open 0 0; open 1 0
            pass 1; people 0 = 8; people 1 = 5; waiting 0 = 0; waiting 1 = 9; waiting 2 = 1
            """);

        e.says("Terms", "but no more than wait there");
        e.run("platform 300; train 300; stop 0 0; open 0 0; pass 1; people 0 = 0; waiting 0 = 0");
        e.run("platform 300; train 300; stop 0 0; open 0 0; rate 0 7; pass 1; people 0 = 7; waiting 0 = 0");
        e.run("platform 300; train 300; stop 0 0; open 0 0; rate 0 8; pass 1; people 0 = 8; waiting 0 = 0");
        e.run("platform 300; train 300; stop 0 0; open 0 0; rate 0 9; pass 1; people 0 = 8; waiting 0 = 1");
        // They come ahead of the boarding: 999 at most, and 8 of them board.
        e.run("""
            platform 300; train 300; stop 0 0; rate 0 9; pass 99; pass 12; waiting 0 = 999
            open 0 0; pass 1; people 0 = 8; waiting 0 = 991; pass 1; people 0 = 16; waiting 0 = 991
            """);
    }

    private void boardingAsThereIsRoom() {
        // 119 have boarded: 14 times 8, and 7.
        String full = """
            platform 300; train 300; stop 0 0; rate 0 8; open 0 0; pass 14; people 0 = 112; waiting 0 = 0
            rate 0 7; pass 1; people 0 = 119; waiting 0 = 0
            """;
        e.says("Terms", "and than there is room: a train has room for 120.");
        e.run(full + "rate 0 1; pass 1; people 0 = 120; waiting 0 = 0; pass 1; people 0 = 120; waiting 0 = 1");
        e.run(full + "rate 0 2; pass 1; people 0 = 120; waiting 0 = 1; pass 1; people 0 = 120; waiting 0 = 3");
        e.run(full + "rate 0 0; pass 1; people 0 = 119; waiting 0 = 0");
        e.run(full + """
            rate 0 9; pass 1; people 0 = 120; waiting 0 = 8; shut 0; open 0 1; people 0 = 119; pass 1
            people 0 = 120; waiting 0 = 16
            """);
        e.run("""
            platform 300; train 300; stop 0 0; rate 0 9; open 0 0
            pass 14; people 0 = 112; waiting 0 = 14; pass 1; people 0 = 120; waiting 0 = 15
            pass 1; people 0 = 120; waiting 0 = 24
            """);
    }

    private void pass() {
        e.says("Promise 13", "Lets ticks go by.");
        e.run("train 100; pass 5; place 0 = 115; low 0 = 110; high 0 = 120; speedOf 0 = 5; pass 1 = 6; place 0 = 121");

        e.says("Promise 13", "`ticks`: 1 to 99");
        e.run("""
            pass least = IAE; pass -1 = IAE; pass 0 = IAE; pass 1 = 1; pass 100 = IAE; pass greatest = IAE
            pass 99 = 100
            """);
        e.run("train 100; pass 4; pass 0 = IAE; pass 100 = IAE; place 0 = 110; pass 98 = 102");

        e.says("Promise 13", "Returns the tick.");
        e.run("pass 2 = 2; pass 99 = 101; pass 1 = 102");

        e.says("Promise 13", "Throws `IllegalArgumentException` as told");
        e.run(passed(900) + """
            pass 99 = 999; pass 0 = IAE; pass -1 = IAE; pass 100 = IAE; pass greatest = IAE; pass 1 = ISE
            """);

        e.says("Promise 13", "Throws `IllegalStateException` if it would be above 999");
        e.run(passed(900) + "pass 99 = 999; pass 1 = ISE; pass 99 = ISE");
        e.run(passed(901) + "pass 99 = ISE; pass 98 = 999; pass 1 = ISE");
        e.run(passed(990) + """
            train 100; pass 4 = 994; place 0 = 110
            pass 6 = ISE; place 0 = 110; pass 99 = ISE; pass 5 = 999; place 0 = 145; pass 1 = ISE; place 0 = 145
            """);
    }

    /** Steps that let ticks go by, from the tick 0 to a later one. */
    static String passed(int tick) {
        StringBuilder script = new StringBuilder();
        int now = 0;
        while (now < tick) {
            int ticks = Math.min(99, tick - now);
            now += ticks;
            script.append("pass ").append(ticks).append(" = ").append(now).append("; ");
        }
        return script.append('\n').toString();
    }
}
