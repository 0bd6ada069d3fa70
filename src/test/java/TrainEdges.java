/** Trains, what they KEEP and are given, how they are put in, and promises 8 to 12. */
final class TrainEdges {
    private final Edges e;

    private TrainEdges(Edges e) {
        this.e = e;
    }

    static void ask(Edges e) {
        TrainEdges edges = new TrainEdges(e);
        edges.numbersOfTrains();
        edges.whatTrainsHave();
        edges.theOneAhead();
        edges.waysToStop();
        edges.keeping();
        edges.whatIsGiven();
        edges.reports();
        edges.reportsOfSilentOnes();
        edges.whereTrainsArePutIn();
        edges.whereZonesAreClosed();
        edges.limitsOfAllOthers();
        edges.train();
        edges.trainIs();
        edges.slip();
        edges.silent();
        edges.emergency();
    }

    static int wayToStop(int speed) {
        return speed * (speed + 1) / 2 + speed;
    }

    /** Steps with a line speed of 20 that bring a train from 200 to a speed; its HIGH is that of highAt then. */
    static String goingAt(int speed) {
        String passed = speed == 0 ? "" : "pass " + speed + "; ";
        return "speed 20; train 200; " + passed + "speedOf 0 = " + speed + "; high 0 = " + highAt(speed) + "\n";
    }

    static int highAt(int speed) {
        return 200 + speed * (speed + 1) / 2 + speed;
    }

    private void numbersOfTrains() {
        e.says("Terms", "Trains are numbered from 0, at most 5");
        e.run("""
            place 0 = IOOBE
            train 1000 = 0; place 0 = 1000; place 1 = IOOBE
            train 500 = 1; train 2000 = 2
            train 300 = 3; place 4 = IOOBE
            train 3000 = 4; place 4 = 3000; place 5 = IOOBE
            train 4000 = ISE; place 5 = IOOBE; place -1 = IOOBE
            place 0 = 1000; place 1 = 500; place 2 = 2000; place 3 = 300
            """);

        e.says("Terms", "each is 100 metres long.");
        e.run("train 1000; zone 800 900; zone 800 899; close 0 true = ISE; close 1 true = false");
        e.run("zone 800 900; close 0 true; train 1000 = ISE; train 1001 = 0");
    }

    private void whatTrainsHave() {
        e.says("Terms", "A train has a PLACE, that of its front as it is, and a LOW and a HIGH, "
            + "between which it knows its PLACE to be;");
        e.run("train 300; place 0 = 300; low 0 = 300; high 0 = 300; pass 3; place 0 = 306; low 0 = 303; high 0 = 309");
        e.run("train 300; slip 0 1; pass 3; place 0 = 309; low 0 = 303; high 0 = 309");
        e.run("train 300; slip 0 -1; pass 3; place 0 = 303; low 0 = 303; high 0 = 309");
        // Its front, not its rear: put in at 300 it is ahead of a ZONE that begins at 301, and covers one of 200.
        e.run("train 300; zone 301 302; zone 199 200; close 0 true = false; limit 0 = 301; close 1 true = ISE");

        e.says("Terms", "a speed, 0 at first; a LIMIT; a slip, -1, 0 or 1, 0 at first.");
        e.run("""
            train 300; place 0 = 300; low 0 = 300; high 0 = 300; speedOf 0 = 0; limit 0 = 5000
            slip 0 -1 = 0; slip 0 0 = -1; slip 0 1 = 0; slip 0 1 = 1; slip 0 2 = IAE; slip 0 -2 = IAE; slip 0 0 = 1
            """);

        e.says("Terms", "From its LOW less 100 to its HIGH is what it may cover.");
        e.run("""
            train 1000; slip 0 1; pass 3; emergency 0; pass 1
            low 0 = 1003; place 0 = 1009; high 0 = 1009
            zone 1 902; zone 1 903; zone 1009 1010; zone 1010 1011
            close 0 true = false; close 1 true = ISE; close 2 true = ISE; close 3 true = false
            """);
        e.run("""
            train 1000; slip 0 -1; pass 3; emergency 0; pass 1
            low 0 = 1003; place 0 = 1003; high 0 = 1009
            zone 1 902; zone 1 903; zone 1009 1010; zone 1010 1011
            close 0 true = false; close 1 true = ISE; close 2 true = ISE; close 3 true = false
            """);
    }

    private void theOneAhead() {
        e.says("Terms", "It is the one ahead of another one, "
            + "if its PLACE is greater, and no other train's PLACE is between both.");
        e.run("""
            train 3000 = 0; train 1000 = 1; limit 0 = 5000; limit 1 = 2880
            train 2000 = 2; limit 0 = 5000; limit 1 = 1880; limit 2 = 2880
            train 500 = 3; limit 3 = 880; limit 1 = 1880
            train 4000 = 4; limit 4 = 5000; limit 0 = 3880; limit 1 = 1880; limit 2 = 2880; limit 3 = 880
            """);
        e.run("train 1000; train 2000; train 3000; limit 0 = 1880; limit 1 = 2880; limit 2 = 5000");
        e.run("train 3000; train 2000; train 1000; limit 0 = 5000; limit 1 = 2880; limit 2 = 1880");
    }

    private void waysToStop() {
        e.says("Terms", "The WAY TO STOP of a speed is that speed times 1 more than it, by 2, "
            + "and that speed, together:");
        for (int speed = 1; speed <= 20; speed++) {
            int kept = highAt(speed) + speed * (speed + 1) / 2 + speed;
            e.run(goingAt(speed) + "platform " + (kept - 2) + "; platform " + (kept - 1)
                + "\nstop 0 0 = ISE; stop 0 1; pass " + speed
                + "; speedOf 0 = 1; pass 1; speedOf 0 = 0; high 0 = " + kept);
        }

        e.says("Terms", "0 of 0, 2 of 1, 5 of 2, 9 of 3, and so on.");
        e.run(goingAt(0) + "zone 200 300; zone 201 300; close 0 true = ISE; close 1 true = false");
        e.run(goingAt(1) + "zone 203 300; zone 204 300; close 0 true = ISE; close 1 true = false");
        e.run(goingAt(2) + "zone 209 300; zone 210 300; close 0 true = ISE; close 1 true = false");
        e.run(goingAt(3) + "zone 217 300; zone 218 300; close 0 true = ISE; close 1 true = false");
        e.run(goingAt(4) + "zone 227 300; zone 228 300; close 0 true = ISE; close 1 true = false");
        e.run(goingAt(20) + "zone 659 700; zone 660 700; close 0 true = ISE; close 1 true = false");
    }

    private void keeping() {
        e.says("Terms", "A train KEEPS a metre, "
            + "if its HIGH and the WAY TO STOP of its speed, together, are at most that metre");
        for (int speed = 0; speed <= 20; speed++) {
            int kept = highAt(speed) + wayToStop(speed);
            e.run(goingAt(speed) + "train " + (kept + 119) + " = ISE; train " + (kept + 120) + " = 1"
                + "\nlimit 0 = " + kept);
            e.run(goingAt(speed) + "platform " + (kept - 2) + "; platform " + (kept - 1)
                + "\nstop 0 0 = ISE; stopOf 0 = none; stop 0 1 = nothing; stopOf 0 = 1");
        }

        e.says("Terms", "but a SILENT one, if its LIMIT is at most that metre.");
        e.run("""
            train 200; zone 1000 1001; close 0 true; silent 0 true; close 0 false
            limit 0 = 1000; train 1119 = ISE; train 1120 = 1; limit 0 = 1000
            """);
        e.run("""
            train 200; zone 1000 1001; close 0 true; silent 0 true; close 0 false; silent 0 false
            limit 0 = 1000; train 1119 = 1; limit 0 = 999
            """);
        e.run("train 200; silent 0 true; train 4999 = ISE; train 5000 = ISE; silent 0 false; train 5000 = 1");
        // One that is braking: its HIGH and the WAY TO STOP of its speed are 3 above its LIMIT.
        e.run("""
            train 990; zone 1000 1001; close 0 true; pass 3; high 0 = 998; speedOf 0 = 2; limit 0 = 1000
            close 0 false; train 1122 = ISE; train 1123 = 1; limit 0 = 1003
            """);
        e.run("""
            train 990; zone 1000 1001; close 0 true; pass 3; high 0 = 998; speedOf 0 = 2; limit 0 = 1000
            silent 0 true; close 0 false; train 1119 = ISE; train 1120 = 1; limit 0 = 1000
            pass 9; high 0 = 1000; isSafe = true
            """);
    }

    private void whatIsGiven() {
        e.says("Terms", "What a train is given is the least of: 5000;");
        e.run("train 5000; limit 0 = 5000; pass 3; limit 0 = 5000");
        e.run("train 100; limit 0 = 5000; train 5000; limit 0 = 4880; limit 1 = 5000");
        e.run("train 100; zone 4999 5000; close 0 true; limit 0 = 4999; close 0 false; limit 0 = 5000");

        e.says("Terms", "of the one ahead its REPORT less 120;");
        e.run("train 1000; train 880; limit 1 = 880; limit 0 = 5000");
        e.run("""
            train 1120; train 100; limit 1 = 1000; pass 1; limit 1 = 1000; pass 1; limit 1 = 1000; pass 1
            limit 1 = 1001
            """);

        e.says("Terms", "of each CLOSED ZONE whose beginning is at least the train's HIGH that beginning.");
        e.run("""
            train 1121; train 100; zone 1000 1001; zone 1001 1002; zone 1002 1003; zone 3000 3001; limit 1 = 1001
            close 2 true; limit 1 = 1001
            close 1 true; limit 1 = 1001
            close 0 true; limit 1 = 1000
            close 3 true; limit 1 = 1000; limit 0 = 3000
            """);
        e.run("train 100; zone 900 901; zone 300 400; close 0 true; limit 0 = 900; close 1 true; limit 0 = 300");
        e.run("train 100; zone 300 400; zone 900 901; close 0 true; limit 0 = 300; close 1 true; limit 0 = 300");
        // One at its HIGH counts, one that ends just behind it, or begins there, does not.
        e.run("""
            train 100; zone 102 200; close 0 true
            pass 1; high 0 = 102; limit 0 = 102
            pass 9; high 0 = 102; limit 0 = 102; speedOf 0 = 0
            """);
        e.run("train 1000; zone 898 899; close 0 true; limit 0 = 5000; pass 9; limit 0 = 5000; speedOf 0 = 9");
        // At the HIGH, not at the PLACE or the LOW.
        e.run("""
            train 100; slip 0 -1; zone 109 200; close 0 true
            pass 2; low 0 = 101; place 0 = 101; high 0 = 105; limit 0 = 109
            pass 2; low 0 = 101; place 0 = 101; high 0 = 109; limit 0 = 109; speedOf 0 = 1
            pass 9; low 0 = 101; place 0 = 101; high 0 = 109; limit 0 = 109; speedOf 0 = 0
            """);
    }

    private void reports() {
        e.says("Terms", "A train that is not SILENT has a REPORT, "
            + "which is its LOW as it was ahead of the latest tick, or as it was put in since");
        // The LOW is 1000, 1001 and 1003 behind the first three ticks.
        e.run("""
            train 1000; train 881 = ISE; train 880 = 1; limit 1 = 880
            pass 1; limit 1 = 880; pass 1; limit 1 = 880; pass 1; limit 1 = 881; pass 1; limit 1 = 883
            """);
        e.run("train 1000; pass 3; low 0 = 1003; train 882 = ISE; train 881 = 1; limit 1 = 881");
        e.run("train 1000; pass 1; low 0 = 1000; place 0 = 1001; train 881 = ISE; train 880 = 1; limit 1 = 880");
        // By a BEACON the LOW becomes more at once, the REPORT not.
        e.run("""
            beacon 1001; train 1000; pass 1; low 0 = 1001; train 881 = ISE; train 880 = 1; limit 1 = 880
            pass 1; limit 1 = 881
            """);
        // It was put in since: ahead of a tick that is not the first one.
        e.run("pass 7; train 1000; train 881 = ISE; train 880 = 1; limit 1 = 880");
    }

    private void reportsOfSilentOnes() {
        e.says("Terms", "of one that is SILENT it stays as it was when it became so, "
            + "and further until the first tick that goes by when it is SILENT no more.");
        // The LOW behind the ticks 1 to 7: 1000, 1001, 1003, 1006, 1010, 1015, 1021.
        e.run("""
            train 1000; pass 3; silent 0 true
            train 882 = ISE; train 881 = 1; limit 1 = 881
            pass 2; low 0 = 1010; limit 1 = 881
            silent 0 false; limit 1 = 881
            pass 1; limit 1 = 890
            pass 1; limit 1 = 895
            """);
        e.run("train 1000; pass 3; silent 0 true; pass 2; train 882 = ISE; train 881 = 1");
        e.run("""
            train 1000; pass 3; silent 0 true; pass 2; silent 0 false; train 882 = ISE; train 881 = 1
            limit 1 = 881
            """);
        e.run("train 1000; pass 3; silent 0 true; pass 2; silent 0 false; pass 1; train 891 = ISE; train 890 = 1");
        // SILENT again ahead of the tick: that is not one in which it is SILENT no more.
        e.run("""
            train 1000; pass 3; silent 0 true; pass 2; silent 0 false; silent 0 true; pass 1
            train 882 = ISE; train 881 = 1; limit 1 = 881
            """);
        // SILENT for no tick at all.
        e.run("""
            train 1000; pass 2; silent 0 true; silent 0 false; pass 1; train 882 = ISE; train 881 = 1
            limit 1 = 881
            """);
    }

    private void whereTrainsArePutIn() {
        e.says("Terms", "A train is put in at a metre of 100 to 5000");
        e.run("train least = IAE; train -1 = IAE; train 0 = IAE; train 99 = IAE; train 100 = 0; place 0 = 100");
        e.run("train 101 = 0; place 0 = 101");
        e.run("train 4999 = 0; place 0 = 4999");
        e.run("train greatest = IAE; train 5001 = IAE; train 5000 = 0; place 0 = 5000");

        e.says("Terms", "if for each train whose PLACE is less that KEEPS that metre less 120");
        e.run("train 1000; train 1001 = ISE; train 1119 = ISE; train 1120 = 1; limit 0 = 1000");
        e.run("train 1000; train 1121 = 1; limit 0 = 1001");
        e.run("""
            train 1000; pass 5; place 0 = 1015; high 0 = 1020; speedOf 0 = 5
            train 1159 = ISE; train 1160 = 1; limit 0 = 1040
            """);
        e.run("train 1000; pass 5; train 1016 = ISE; train 1161 = 1; limit 0 = 1041");
        e.run("train 600; train 300; train 720 = 2; limit 0 = 600; limit 1 = 480");
        e.run("train 300; train 600; train 719 = ISE; train 419 = ISE; train 420 = 2; train 720 = 3");

        e.says("Terms", "and for each other one its REPORT less 120 is at least that metre");
        e.run("train 1000; train 1000 = ISE; train 999 = ISE; train 881 = ISE; train 880 = 1; limit 1 = 880");
        e.run("train 1000; train 879 = 1; limit 1 = 880");
        e.run("train 1000; pass 3; place 0 = 1006; train 1006 = ISE; train 1005 = ISE; train 882 = ISE; train 881 = 1");
        e.run("train 1000; train 2000; train 1880 = 2; train 880 = 3; train 881 = ISE");
        e.run("train 100; train 100 = ISE; train 101 = ISE; train 219 = ISE; train 220 = 1");
        e.run("train 5000; train 5000 = ISE; train 4881 = ISE; train 4880 = 1");
        // Between two: 240 metres from the one to the other is just enough.
        e.run("train 1000; train 1239; train 1119 = ISE; train 1120 = ISE");
        e.run("""
            train 1000; train 1240; train 1119 = ISE; train 1121 = ISE; train 1120 = 2; limit 0 = 1000
            limit 2 = 1120
            """);
    }

    private void whereZonesAreClosed() {
        e.says("Terms", "and if no CLOSED ZONE has a metre of from that less 100 to that (its ends with it).");
        e.run("zone 500 600; close 0 true; train 500 = ISE; train 499 = 0; limit 0 = 500");
        e.run("zone 500 600; close 0 true; train 700 = ISE; train 701 = 0; limit 0 = 5000");
        e.run("zone 500 600; close 0 true; train 550 = ISE; train 600 = ISE; train 601 = ISE; train 699 = ISE");
        e.run("""
            zone 640 641; close 0 true; train 700 = ISE; train 640 = ISE; train 741 = ISE; train 742 = 0
            train 622 = 1
            """);
        e.run("zone 500 600; train 550 = 0; close 0 true = ISE");
        e.run("zone 500 600; close 0 true; close 0 false; train 550 = 0");
        // Each of them.
        e.run("""
            zone 300 400; zone 500 600; zone 700 800; zone 900 1000
            close 0 true; close 1 true; close 2 true; close 3 true
            train 300 = ISE; train 500 = ISE; train 700 = ISE; train 900 = ISE; train 1100 = ISE
            train 1101 = 0; train 299 = 1; limit 1 = 300
            """);
        e.run("zone 0 1; close 0 true; train 100 = ISE; train 101 = ISE; train 102 = 0");
        e.run("zone 4999 5000; close 0 true; train 5000 = ISE; train 4999 = ISE; train 4998 = 0; limit 0 = 4999");
    }

    private void limitsOfAllOthers() {
        e.says("Terms", "Its PLACE, LOW, HIGH and REPORT are that metre then, and its LIMIT is what it is given;");
        e.run("""
            zone 900 901; close 0 true; train 500
            place 0 = 500; low 0 = 500; high 0 = 500; limit 0 = 900
            train 300; limit 1 = 380; train 180; limit 2 = 180
            """);
        e.run("train 2000; zone 1880 1881; close 0 true; train 500; limit 1 = 1880; close 0 false; limit 1 = 1880");
        e.run("train 2000; zone 1879 1880; close 0 true; train 500; limit 1 = 1879; close 0 false; limit 1 = 1880");

        e.says("Terms", "the LIMITS of all others that are not SILENT are what these are given then, too.");
        e.run("train 500; train 100; limit 0 = 5000; train 3000; limit 0 = 2880; limit 1 = 380; limit 2 = 5000");
        // A LIMIT that is not what it is given any more: of a train that was SILENT as a ZONE was opened.
        String stale = "train 1000; zone 3000 3001; close 0 true; silent 0 true; close 0 false; limit 0 = 3000\n";
        e.run(stale + "train 3120; limit 0 = 3000");
        e.run(stale + "train 100; limit 0 = 3000");
        e.run(stale + "silent 0 false; limit 0 = 3000; train 100; limit 0 = 5000");
        e.run(stale + "silent 0 false; train 5000; limit 0 = 4880");
        e.run(stale + "silent 0 false; train 1119 = ISE; train 99 = IAE; limit 0 = 3000");
    }

    private void train() {
        e.says("Promise 8", "Puts a train in.");
        e.run("train 300; place 0 = 300; speedOf 0 = 0; people 0 = 0; pass 1; place 0 = 301");

        e.says("Promise 8", "`metre`: 100 to 5000");
        e.run("""
            train 99 = IAE; train 5001 = IAE; train least = IAE; train greatest = IAE
            train 100 = 0; train 5000 = 1; train 99 = IAE; train 5001 = IAE
            """);

        e.says("Promise 8", "Returns its number.");
        e.run("train 900 = 0; train 400 = 1; train 1400 = 2");

        e.says("Promise 8", "Throws `IllegalArgumentException` as told");
        e.run("zone 0 5000; close 0 true; train 99 = IAE; train 100 = ISE; train 5000 = ISE; train 5001 = IAE");

        e.says("Promise 8", "Throws `IllegalStateException` if it cannot be, or there are 5");
        e.run("""
            train 1000; train 2000; train 3000; train 4000 = 3
            train 5000 = 4
            train 500 = ISE; train 1000 = ISE; train 99 = IAE; train 5001 = IAE
            """);
        e.run("train 1000; train 1001 = ISE; train 2000 = 1; train 1001 = ISE; train 3000 = 2");
    }

    private void trainIs() {
        e.says("Promise 9", "Returns what a train is: 0 its PLACE, 1 its LOW, 2 its HIGH, 3 its speed, 4 its LIMIT, "
            + "5 whether it is in EMERGENCY, 1 or 0, 6 whether it is SILENT, 7 its STOP, NONE without, "
            + "8 its doors that are open, a set; NONE, if they are shut, 9 how many people it has, "
            + "10 for how many ticks it is held");
        e.run("""
            train 300
            trainIs 0 0 = 300; trainIs 0 1 = 300; trainIs 0 2 = 300; trainIs 0 3 = 0; trainIs 0 4 = 5000
            trainIs 0 5 = 0; trainIs 0 6 = 0; trainIs 0 7 = none; trainIs 0 8 = none; trainIs 0 9 = 0; trainIs 0 10 = 0
            """);
        e.run("""
            train 300; platform 4000; platform 3000; zone 4500 4600; close 0 true; slip 0 1
            pass 4; stop 0 1; silent 0 true; emergency 0
            trainIs 0 0 = 314; trainIs 0 1 = 306; trainIs 0 2 = 314; trainIs 0 3 = 4; trainIs 0 4 = 4500
            trainIs 0 5 = 1; trainIs 0 6 = 1; trainIs 0 7 = 1; trainIs 0 8 = none; trainIs 0 9 = 0; trainIs 0 10 = 0
            silent 0 false; trainIs 0 5 = 1; trainIs 0 6 = 0
            """);
        e.run("""
            train 300; platform 300; rate 0 5; stop 0 0; bar true 0 2; open 0 0; hold 0 9; pass 2
            trainIs 0 7 = 0; trainIs 0 8 = 13; trainIs 0 9 = 10; trainIs 0 10 = 7
            shut 0; bar true 0 15; open 0 0; trainIs 0 8 = 0; shut 0; trainIs 0 8 = none
            """);

        e.says("Promise 9", "`what`: 0 to 10");
        e.run("""
            train 300; trainIs 0 least = IAE; trainIs 0 -1 = IAE; trainIs 0 0 = 300; trainIs 0 10 = 0
            trainIs 0 11 = IAE; trainIs 0 greatest = IAE
            """);

        e.says("Promise 9", "Throws `IndexOutOfBoundsException` as told");
        e.run("""
            trainIs 0 0 = IOOBE; platform 300; platform 300; train 300; trainIs 0 0 = 300; trainIs 1 0 = IOOBE
            trainIs -1 0 = IOOBE; trainIs least 0 = IOOBE; trainIs greatest 0 = IOOBE
            """);

        e.says("Promise 9", "Throws `IllegalArgumentException` as told");
        e.run("train 300; trainIs 0 11 = IAE; trainIs 1 11 = IOOBE; trainIs 0 -1 = IAE; trainIs -1 -1 = IOOBE");
    }

    private void slip() {
        e.says("Promise 10", "Tells the slip of a train.");
        e.run("""
            train 1000; train 300; slip 1 1; pass 1; place 0 = 1001; place 1 = 302; slip 1 -1; pass 1
            place 1 = 303
            """);

        e.says("Promise 10", "`slip`: -1 to 1");
        e.run("""
            train 300; slip 0 least = IAE; slip 0 -2 = IAE; slip 0 -1 = 0; slip 0 0 = -1; slip 0 1 = 0
            slip 0 2 = IAE; slip 0 greatest = IAE; slip 0 0 = 1
            """);

        e.says("Promise 10", "Returns what it was.");
        e.run("""
            train 300; train 600; slip 0 1 = 0; slip 1 -1 = 0; slip 0 1 = 1; slip 0 -1 = 1; slip 1 0 = -1
            slip 0 0 = -1
            """);

        e.says("Promise 10", "Throws `IndexOutOfBoundsException` as told");
        e.run("""
            slip 0 0 = IOOBE; train 300; platform 300; platform 300; slip 1 0 = IOOBE; slip -1 0 = IOOBE
            slip least 0 = IOOBE; slip greatest 0 = IOOBE; slip 0 0 = 0
            """);

        e.says("Promise 10", "Throws `IllegalArgumentException` as told");
        e.run("train 300; slip 0 1; slip 0 2 = IAE; slip 0 -2 = IAE; slip 1 2 = IOOBE; pass 1; place 0 = 302");
    }

    private void silent() {
        e.says("Promise 11", "Tells whether a train is SILENT.");
        e.run("train 300; train 600; silent 0 true; isSilent 0 = 1; isSilent 1 = 0; silent 0 false; isSilent 0 = 0");

        e.says("Promise 11", "Returns whether it was.");
        e.run("""
            train 300; train 600; silent 0 false = false; silent 0 true = false; silent 0 true = true
            silent 1 true = false; silent 0 false = true; silent 0 false = false; silent 1 false = true
            """);

        e.says("Promise 11", "Throws `IndexOutOfBoundsException` as told");
        e.run("""
            silent 0 true = IOOBE; train 300; platform 300; platform 300; silent 1 true = IOOBE
            silent 1 false = IOOBE; silent -1 true = IOOBE; silent least true = IOOBE; silent greatest true = IOOBE
            """);
    }

    private void emergency() {
        e.says("Promise 12", "Puts a train into EMERGENCY, if its speed is above 0; otherwise nothing happens.");
        e.run("train 300; emergency 0 = false; inEmergency 0 = 0; pass 1; speedOf 0 = 1");
        e.run("train 300; pass 1; emergency 0 = true; inEmergency 0 = 1; speedOf 0 = 1; pass 1; speedOf 0 = 0");
        // One that was brought to rest, is held, or has open doors.
        e.run("""
            train 300; platform 300; stop 0 0; open 0 0; emergency 0 = false; pass 1; inEmergency 0 = 0; doors 0 = 15
            shut 0; depart 0; hold 0 1; emergency 0 = false; pass 1; inEmergency 0 = 0; pass 1; speedOf 0 = 1
            """);

        e.says("Promise 12", "Returns whether it is in EMERGENCY then.");
        e.run("""
            train 300; train 900; pass 4; emergency 0 = true; emergency 0 = true; inEmergency 1 = 0
            pass 1; speedOf 0 = 1; emergency 0 = true
            pass 1; speedOf 0 = 0; emergency 0 = false; inEmergency 0 = 0; speedOf 1 = 6
            """);

        e.says("Promise 12", "Throws `IndexOutOfBoundsException` as told");
        e.run("""
            emergency 0 = IOOBE; train 300; platform 300; platform 300; pass 1; emergency 1 = IOOBE
            emergency -1 = IOOBE; emergency least = IOOBE; emergency greatest = IOOBE; inEmergency 0 = 0
            """);
    }
}
