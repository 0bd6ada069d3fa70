import java.util.ArrayList;
import java.util.List;
import java.util.Map;
import java.util.Random;
import java.util.TreeMap;

/**
 * Many runs of any calls, each answered as the model of the document answers, and behind a call
 * that throws all that can be seen is as it was. The runs are the same each time.
 */
public final class AnyCallsTest {
    private static final int RUNS = 1500;
    private static final int CALLS = 512;
    private static final int FEWEST = 50;
    private static final String[] CALLED = {
        "platform", "beacon", "works", "zone", "close", "close", "speed", "train", "train", "trainIs", "trainIs",
        "slip", "silent", "emergency", "pass", "pass", "pass", "pass", "stop", "stop", "stop", "bar", "open", "open",
        "shut", "shut", "hold", "depart", "depart", "rate", "platformIs", "record", "placeAnew", "isSafe",
    };
    private static final int[] EDGES = {
        Integer.MIN_VALUE, -2, -1, 0, 1, 2, 3, 4, 5, 6, 11, 12, 15, 16, 20, 21, 60, 61, 99, 100, 120, 121, 998, 999,
        4999, 5000, 5001, Integer.MAX_VALUE,
    };

    private static final Check check = new Check("AnyCallsTest");
    private static final Map<String, Integer> met = new TreeMap<>();

    public static void main(String[] args) {
        for (int run = 0; run < RUNS; run++) {
            runOnce(run);
        }
        meetsAllOutcomes();
        check.end();
    }

    private static void runOnce(int run) {
        Random random = new Random(run);
        Scene scene = new Scene(random);
        HeadwayDeep x = new HeadwayDeep();
        PlainModel model = new PlainModel();
        for (int i = 0; i < CALLS; i++) {
            String call = scene.call(i);
            int a = scene.first(call);
            int b = scene.second(call, a, x);
            int c = random.nextInt(20) == 0 ? any(random) : random.nextInt(16);
            String due = model.answer(call, a, b, c);
            String answer = Calls.answer(x, call, a, b, c);
            String told = call + "(" + a + ", " + b + ", " + c + ")";
            boolean isDue = answer.equals(due);
            check.same("run " + run + ": " + told + " answered " + answer + " for " + due, isDue, true);
            count(call, due);
            scene.learn(call, a, due);
            if (!isDue || i % 16 == 15 && !seesTheSame(run, told, x, model)) {
                return;
            }
        }
    }

    /** What a run knows of its line, so that its calls meet trains at their STOPS now and then. */
    private static final class Scene {
        final Random random;
        final int reach;
        final int longestPass;
        final List<Integer> marks = new ArrayList<>();
        int trains;

        Scene(Random random) {
            this.random = random;
            reach = random.nextBoolean() ? 5000 : 900;
            longestPass = random.nextInt(4) == 0 ? 60 : 6;
        }

        String call(int number) {
            if (number < 3) {
                return "platform";
            }
            return number == 3 ? "train" : CALLED[random.nextInt(CALLED.length)];
        }

        int first(String call) {
            if (random.nextInt(40) == 0) {
                return any(random);
            }
            switch (call) {
                case "platform": return 100 + 20 * random.nextInt((reach - 100) / 20 + 1);
                case "beacon": case "train": return Math.max(100, nearMark());
                case "zone": return random.nextInt(reach);
                case "speed": return 1 + random.nextInt(20);
                case "pass": return random.nextInt(12) == 0 ? 1 + random.nextInt(99) : 1 + random.nextInt(longestPass);
                case "works": return random.nextInt(6);
                case "close": return random.nextInt(4);
                case "bar": return random.nextInt(2);
                case "rate": case "platformIs": return random.nextInt(Math.max(1, marks.size()));
                default: return random.nextInt(Math.max(1, trains));
            }
        }

        int nearMark() {
            if (marks.isEmpty() || random.nextInt(4) == 0) {
                return random.nextInt(reach);
            }
            return marks.get(random.nextInt(marks.size())) - (random.nextBoolean() ? 0 : random.nextInt(12));
        }

        int second(String call, int a, HeadwayDeep x) {
            switch (call) {
                case "silent": return random.nextInt(4) == 0 ? 1 : 0;
                case "works": return random.nextInt(4) == 0 ? 0 : 1;
                case "close": return random.nextInt(2);
                default: break;
            }
            if (random.nextInt(40) == 0) {
                return any(random);
            }
            switch (call) {
                case "zone": return a + 1 + random.nextInt(60);
                case "trainIs": return random.nextInt(11);
                case "slip": return random.nextInt(3) - 1;
                case "stop": return nextMark(a, x);
                case "bar": return random.nextInt(Math.max(1, Math.max(trains, marks.size())));
                case "open": return random.nextInt(40);
                case "hold": return 1 + random.nextInt(random.nextInt(3) == 0 ? 60 : 5);
                case "rate": return random.nextInt(10);
                case "platformIs": return random.nextInt(4);
                default: return random.nextInt(100);
            }
        }

        int nextMark(int train, HeadwayDeep x) {
            int next = random.nextInt(Math.max(1, marks.size()));
            if (train < 0 || train >= trains || random.nextInt(4) == 0) {
                return next;
            }
            int high = x.trainIs(train, 2);
            for (int i = 0; i < marks.size(); i++) {
                boolean isNearer = marks.get(next) < high - 1 || marks.get(i) < marks.get(next);
                if (marks.get(i) >= high - 1 && isNearer) {
                    next = i;
                }
            }
            return next;
        }

        void learn(String call, int a, String due) {
            if (Calls.isThrown(due)) {
                return;
            }
            if (call.equals("platform")) {
                marks.add(a);
            }
            trains += call.equals("train") ? 1 : 0;
        }
    }

    private static int any(Random random) {
        return EDGES[random.nextInt(EDGES.length)];
    }

    private static boolean seesTheSame(int run, String call, HeadwayDeep x, PlainModel model) {
        List<String> answers = Probe.seen(Calls.of(x));
        List<String> due = Probe.seen(model::answer);
        boolean isSame = answers.equals(due);
        check.same("run " + run + ": all that is seen behind " + call + "\n  " + answers + "\n  " + due, isSame, true);
        check.same("run " + run + ": it is safe behind " + call, x.isSafe(), true);
        return isSame;
    }

    private static void count(String call, String due) {
        met.merge(call + " " + (Calls.isThrown(due) ? due : "answers"), 1, Integer::sum);
    }

    private static void meetsAllOutcomes() {
        String[] all = {
            "platform a s", "beacon a s", "works i", "zone a s", "close i s", "speed a", "train a s", "trainIs i a",
            "slip i a", "silent i", "emergency i", "pass a s", "stop i s", "bar i a", "open i a s", "shut i s",
            "hold i a s", "depart i s", "rate i a", "platformIs i a", "record i a", "placeAnew i", "isSafe",
        };
        for (String outcomes : all) {
            String[] parts = outcomes.split(" ");
            meets(parts[0] + " answers");
            for (int i = 1; i < parts.length; i++) {
                String thrown = parts[i].equals("a") ? PlainModel.BAD
                    : parts[i].equals("s") ? PlainModel.NOT_NOW : PlainModel.NO_SUCH;
                meets(parts[0] + " " + thrown);
            }
        }
    }

    private static void meets(String outcome) {
        int times = met.getOrDefault(outcome, 0);
        check.same("the runs meet '" + outcome + "' " + times + " times only", times >= FEWEST, true);
    }
}
