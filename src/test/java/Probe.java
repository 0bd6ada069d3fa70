import java.util.ArrayList;
import java.util.List;

/** What is answered to many calls, so that two objects, or one ahead of a call and behind it, can be compared. */
final class Probe {
    private static final int MOST_TICKS = 4;
    /** More than there can be of anything on a line, so that each loop ends. */
    private static final int MOST = 13;

    /** What answers calls: an object of the class, or a model of it. */
    interface Asked {
        String answer(String call, int a, int b, int c);
    }

    private final Asked asked;
    private final List<String> answers = new ArrayList<>();

    private Probe(Asked asked) {
        this.asked = asked;
    }

    /** What the calls answer that change nothing. */
    static List<String> seen(Asked asked) {
        Probe probe = new Probe(asked);
        probe.see();
        return probe.answers;
    }

    /** What is seen as more ticks go by. */
    static List<String> onward(Asked asked) {
        Probe probe = new Probe(asked);
        for (int ticks : new int[] {1, 3, 30}) {
            probe.ask("pass", ticks, 0, 0);
            probe.see();
        }
        return probe.answers;
    }

    /** What the calls answer that tell what was there, and those that add one more. */
    static List<String> told(Asked asked) {
        Probe probe = new Probe(asked);
        probe.ask("speed", 15, 0, 0);
        for (int beacon = 0; beacon < MOST && probe.ask("works", beacon, 1, 0);) {
            beacon++;
        }
        for (int zone = 0; zone < MOST && probe.ask("close", zone, 1, 0); zone++) {
            probe.ask("close", zone, 0, 0);
        }
        for (int platform = 0; platform < MOST && probe.ask("rate", platform, 0, 0); platform++) {
            probe.ask("bar", 0, platform, 0);
        }
        for (int train = 0; train < MOST && probe.ask("slip", train, 0, 0); train++) {
            probe.askTrain(train);
        }
        probe.ask("platform", 100, 0, 0);
        probe.ask("beacon", 0, 0, 0);
        probe.ask("zone", 0, 1, 0);
        probe.ask("train", 100, 0, 0);
        probe.ask("train", 5000, 0, 0);
        probe.see();
        return probe.answers;
    }

    private void askTrain(int train) {
        ask("emergency", train, 0, 0);
        ask("depart", train, 0, 0);
        ask("shut", train, 0, 0);
        ask("bar", 1, train, 0);
        ask("open", train, 0, 0);
        ask("hold", train, 1, 0);
        ask("silent", train, 0, 0);
    }

    private void see() {
        for (int train = 0; train < MOST && ask("placeAnew", train, 0, 0); train++) {
            for (int what = 0; what <= 10; what++) {
                ask("trainIs", train, what, 0);
            }
            for (int tick = 1; tick <= MOST_TICKS; tick++) {
                ask("record", train, tick, 0);
            }
        }
        for (int platform = 0; platform < MOST && ask("platformIs", platform, 0, 0); platform++) {
            for (int what = 1; what <= 3; what++) {
                ask("platformIs", platform, what, 0);
            }
        }
        ask("isSafe", 0, 0, 0);
    }

    /** Whether there is one of that number. */
    private boolean ask(String call, int a, int b, int c) {
        String answer = asked.answer(call, a, b, c);
        answers.add(call + "(" + a + ", " + b + ", " + c + ") answers " + answer);
        return !answer.equals(PlainModel.NO_SUCH);
    }
}
