import java.io.ByteArrayOutputStream;
import java.io.PrintStream;
import java.lang.reflect.Field;
import java.lang.reflect.Method;
import java.lang.reflect.Modifier;
import java.util.ArrayList;
import java.util.Arrays;
import java.util.List;

/** The document's first part, "What it is", and its last one, "Not promised". */
final class WholeEdges {
    private static final int MOST_CALLS = 512;
    private static final int LATER_CALLS = 5000;

    private final Edges e;

    private WholeEdges(Edges e) {
        this.e = e;
    }

    static void ask(Edges e) throws InterruptedException {
        WholeEdges edges = new WholeEdges(e);
        edges.lineAndTrains();
        edges.limits();
        edges.braking();
        edges.emergency();
        edges.stopsAndDoors();
        edges.peopleAndHolding();
        edges.silenceAndWorks();
        edges.departuresAndRecords();
        edges.manyCalls();
        edges.laterCalls();
        edges.notPromised();
        edges.threads();
        edges.nothingElse();
    }

    private void lineAndTrains() {
        e.says("What it is", "An underground railway without drivers:");
        // Nobody tells it to go, to brake, or to rest: it does so as ticks go by.
        e.run("""
            train 300; platform 320; stop 0 0
            pass 2; speedOf 0 = 2; pass 1; speedOf 0 = 3; pass 9; speedOf 0 = 0; high 0 = 321; stopOf 0 = 0
            """);

        e.says("What it is", "a line with platforms and beacons,");
        e.run("platform 500 = 0; beacon 301 = 0; mark 0 = 500; train 300; pass 1; low 0 = 301; high 0 = 301");

        e.says("What it is", "trains that know where they are as an interval that grows while they go,");
        e.run("""
            train 300; low 0 = 300; high 0 = 300
            pass 1; low 0 = 300; place 0 = 301; high 0 = 302
            pass 1; low 0 = 301; place 0 = 303; high 0 = 305
            pass 1; low 0 = 303; place 0 = 306; high 0 = 309
            """);
        e.run("train 300; hold 0 9; pass 9; low 0 = 300; high 0 = 300; pass 1; low 0 = 300; high 0 = 302");
    }

    private void limits() {
        e.says("What it is", "limits dealt out by the worst rear end of the one ahead and by closed zones,");
        // The PLACE of the one ahead is 1006, but its rear end may be at 903 still: 20 metres are left to it.
        e.run("train 1000; train 500; pass 3; place 0 = 1006; low 0 = 1003; pass 1; limit 1 = 883");
        e.run("train 1000; train 500; zone 700 800; limit 1 = 880; close 0 true; limit 1 = 700; limit 0 = 5000");
        e.run("train 1000; train 500; zone 881 882; close 0 true; limit 1 = 880; limit 0 = 5000");
    }

    private void braking() {
        e.says("What it is", "braking that can always be kept,");
        for (int speed = 1; speed <= 20; speed++) {
            int kept = TrainEdges.highAt(speed) + TrainEdges.wayToStop(speed);
            StringBuilder script = new StringBuilder(TrainEdges.goingAt(speed));
            script.append("zone ").append(kept).append(" 4000; close 0 true\n");
            for (int next = speed; next >= 0; next--) {
                script.append("pass 1; speedOf 0 = ").append(next).append("; isSafe = true\n");
            }
            e.run(script.append("high 0 = ").append(kept).append("; pass 9; high 0 = ").append(kept).toString());
        }
    }

    private void emergency() {
        e.says("What it is", "emergency that is not taken back while moving,");
        e.run("""
            train 300; pass 7; emergency 0 = true; silent 0 true; silent 0 false; slip 0 1; speed 20
            zone 4000 4001; close 0 true; close 0 false; platform 4000; stop 0 0; inEmergency 0 = 1
            pass 1; speedOf 0 = 4; inEmergency 0 = 1; pass 1; speedOf 0 = 1; inEmergency 0 = 1
            pass 1; speedOf 0 = 0; inEmergency 0 = 0; pass 1; speedOf 0 = 1; inEmergency 0 = 0
            """);
    }

    private void stopsAndDoors() {
        e.says("What it is", "stops,");
        e.run("train 300; platform 309; stop 0 0; stopOf 0 = 0; pass 9; high 0 = 310; low 0 = 302; depart 0 = ISE");
        e.run("""
            train 300; platform 309; beacon 309; slip 0 1; stop 0 0
            pass 9; place 0 = 310; low 0 = 310; depart 0 = 0
            """);
        e.run("train 300; platform 301; stop 0 0; stopOf 0 = 0; pass 9; high 0 = 302; low 0 = 300; depart 0 = 0");

        e.says("What it is", "doors of train and platform that open one for one,");
        for (int barred = 0; barred <= 15; barred++) {
            int others = 15 - barred;
            e.run("platform 300; train 300; stop 0 0; bar true 0 " + barred
                + "; open 0 0 = " + others + "; shut 0; bar true 0 0; bar false 0 " + barred
                + "; open 0 0 = " + others + "; shut 0; bar true 0 " + others + "; open 0 0 = 0");
        }
        e.run("platform 300; train 300; stop 0 0; bar true 0 3; bar false 0 5; open 0 0 = 8; doors 0 = 8");
    }

    private void peopleAndHolding() {
        e.says("What it is", "people who board,");
        e.run("""
            platform 300; train 300; stop 0 0; rate 0 9; pass 1; waiting 0 = 9; people 0 = 0; open 0 0
            pass 1; waiting 0 = 10; people 0 = 8; pass 1; waiting 0 = 11; people 0 = 16
            """);

        e.says("What it is", "holding,");
        e.run("train 300; hold 0 3 = 3; pass 3; place 0 = 300; held 0 = 0; pass 1; place 0 = 301");
    }

    private void silenceAndWorks() {
        e.says("What it is", "silence of a train,");
        e.run("""
            train 1000; train 500; silent 0 true; isSilent 0 = 1; pass 9
            low 0 = 1036; limit 1 = 880; silent 0 false; pass 1; limit 1 = 916
            """);

        e.says("What it is", "works on the line,");
        e.run("zone 600 700; close 0 true; train 650 = ISE; train 500 = 0; limit 0 = 600; pass 40; high 0 = 600");
        e.run("beacon 301; works 0 false = true; train 300; pass 1; high 0 = 302");
    }

    private void departuresAndRecords() {
        e.says("What it is", "departures and gaps,");
        e.run("""
            platform 300; train 300; stop 0 0; pass 2; depart 0; departures 0 = 1; gap 0 = none
            stop 0 0; pass 7; depart 0; departures 0 = 2; gap 0 = 7
            """);

        e.says("What it is", "and records that are played again.");
        e.run("""
            train 300; pass 2; slip 0 1; pass 1; record 0 1 = 1; record 0 2 = 2; record 0 3 = 3
            place 0 = 307; placeAnew 0 = 307
            """);
    }

    private void manyCalls() {
        e.says("What it is", "An object is used for at most 512 calls after it has been made;");
        StringBuilder ticks = new StringBuilder();
        for (int i = 1; i <= MOST_CALLS; i++) {
            ticks.append("pass 1 = ").append(i).append('\n');
        }
        e.run(ticks.toString());

        // All that there can be, and then one train that departs again and again, up to the last call.
        List<String> calls = new ArrayList<>();
        for (int i = 0; i < 5; i++) {
            calls.add("train " + (300 + 700 * i));
        }
        for (int i = 0; i < 12; i++) {
            calls.add("beacon " + 320 * i);
        }
        for (int i = 0; i < 6; i++) {
            calls.add("platform " + (i == 0 ? 300 : 4000 + i));
        }
        calls.addAll(List.of("zone 4990 5000", "zone 4980 5000", "zone 4970 5000", "zone 4960 5000", "close 3 true"));
        calls.addAll(List.of("rate 0 1", "hold 2 60"));
        int departures = 0;
        while (calls.size() < MOST_CALLS - 7) {
            calls.addAll(List.of("stop 0 0", "open 0 120 = 15", "pass 1", "people 0 = 1", "shut 0", "depart 0 = 0"));
            departures++;
        }
        while (calls.size() < MOST_CALLS - 1) {
            calls.add("isSafe = true");
        }
        calls.add("departures 0 = " + departures);
        e.run(String.join("\n", calls));
    }

    private void laterCalls() {
        e.says("What it is", "what later calls answer is free.");
        e.sees("calls behind the 512th end, and throw nothing but what the face tells", laterCallsEnd());

        e.says("Not promised", "and nothing about an object after its 512th call.");
        e.sees("calls behind the 512th end, and throw nothing but what the face tells", laterCallsEnd());
    }

    private static boolean laterCallsEnd() {
        String[] names = {"train", "beacon", "platform", "zone", "close", "works", "stop", "open", "hold", "pass",
            "silent", "emergency", "shut", "depart", "bar", "rate", "slip", "speed", "record", "placeAnew", "isSafe",
            "trainIs", "platformIs"};
        List<String> due = List.of(PlainModel.BAD, PlainModel.NOT_NOW, PlainModel.NO_SUCH);
        HeadwayDeep x = new HeadwayDeep();
        for (int i = 0; i < MOST_CALLS + LATER_CALLS; i++) {
            String answer = Calls.answer(x, names[i % names.length], i * 37 % 5000, i % 7 - 1, i % 16);
            if (Calls.isThrown(answer) && !due.contains(answer)) {
                return false;
            }
        }
        return true;
    }

    private void notPromised() {
        e.says("Not promised", "How the state is held inside the object is free,");
        e.sees("no field can be seen but NONE", fieldsAreHidden());

        e.says("Not promised", "as are the speed of each call,");
        e.sees("the dearest calls end", dearestCallsEnd());

        e.says("Not promised", "the text of toString and the behaviour of equals and hashCode.");
        List<String> own = Arrays.stream(HeadwayDeep.class.getDeclaredMethods()).map(Method::getName).toList();
        e.sees("the class has none of its own",
            !own.contains("toString") && !own.contains("equals") && !own.contains("hashCode"));
    }

    private static boolean fieldsAreHidden() {
        for (Field field : HeadwayDeep.class.getDeclaredFields()) {
            if (!Modifier.isPrivate(field.getModifiers()) && !field.getName().equals("NONE")) {
                return false;
            }
        }
        return true;
    }

    /** Ten passes of 99 with five trains, and 500 PLACES found anew at the end of them. */
    private static boolean dearestCallsEnd() {
        HeadwayDeep x = new HeadwayDeep();
        for (int i = 0; i < 5; i++) {
            x.train(100 + 120 * i);
        }
        for (int i = 0; i < 10; i++) {
            x.pass(99);
        }
        boolean isSame = true;
        for (int i = 0; i < 490; i++) {
            isSame &= x.placeAnew(i % 5) == x.trainIs(i % 5, 0);
        }
        return isSame;
    }

    private void threads() throws InterruptedException {
        e.says("Not promised", "Use of one object from several threads at once is not promised to be safe.");
        // That is of one object: two of them are never in each other's way.
        List<String> alone = new ArrayList<>();
        goes(alone);
        List<String> first = new ArrayList<>();
        List<String> second = new ArrayList<>();
        Thread other = new Thread(() -> goes(second));
        other.start();
        goes(first);
        other.join();
        e.sees("two objects in two threads answer as one alone", first.equals(alone) && second.equals(alone));
        e.sees("two objects in turn answer as one alone", inTurn().equals(alone));
    }

    private static void goes(List<String> answers) {
        Probe.Asked asked = Calls.of(new HeadwayDeep());
        for (Step step : ride()) {
            answers.add(step.made(asked));
        }
    }

    /** The answers of one of two objects that are asked in turn. */
    private static List<String> inTurn() {
        List<String> answers = new ArrayList<>();
        Probe.Asked asked = Calls.of(new HeadwayDeep());
        Probe.Asked other = Calls.of(new HeadwayDeep());
        for (Step step : ride()) {
            answers.add(step.made(asked));
            step.made(other);
        }
        return answers;
    }

    private static List<Step> ride() {
        return Step.all("platform 300; beacon 320; zone 900 1000; close 0 true; train 300; rate 0 9; stop 0 0; "
            + "open 0 0; pass 9; people 0; shut 0; hold 0 2; pass 2; depart 0; speed 12; train 1200; silent 1 true; "
            + "pass 1; low 0; high 0; record 0 12; placeAnew 0; waiting 0; limit 0; ".repeat(40) + "isSafe");
    }

    private void nothingElse() {
        e.says("Not promised", "Nothing is promised beyond the answers and state changes described above,");
        e.sees("nothing is printed", printed().isEmpty());
        e.sees("nothing is told to what it extends or implements",
            HeadwayDeep.class.getSuperclass() == Object.class && HeadwayDeep.class.getInterfaces().length == 0);
    }

    private static String printed() {
        PrintStream out = System.out;
        PrintStream err = System.err;
        ByteArrayOutputStream caught = new ByteArrayOutputStream();
        PrintStream stream = new PrintStream(caught, true);
        System.setOut(stream);
        System.setErr(stream);
        goes(new ArrayList<>());
        System.setOut(out);
        System.setErr(err);
        return caught.toString();
    }
}
