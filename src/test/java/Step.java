import java.util.ArrayList;
import java.util.Arrays;
import java.util.List;
import java.util.Map;

/**
 * A call of a script and what is due: "train 100 = 0" answers 0, "train 99 = IAE" throws, "pass 5" answers
 * whatever it does. "place 0" is short for "trainIs 0 0" and so on; '#' begins a remark.
 */
final class Step {
    private static final List<String> OF_TRAIN = List.of("place", "low", "high", "speedOf", "limit", "inEmergency",
        "isSilent", "stopOf", "doors", "people", "held");
    private static final List<String> OF_PLATFORM = List.of("mark", "waiting", "departures", "gap");
    private static final Map<String, String> ANSWERS = Map.of("IAE", PlainModel.BAD, "ISE", PlainModel.NOT_NOW,
        "IOOBE", PlainModel.NO_SUCH, "none", "-1", "true", "1", "false", "0", "nothing", PlainModel.NOTHING);

    final String text;
    /** What the call answers or throws, or null if a script leaves that open. */
    final String due;
    private final String call;
    private final int[] given = new int[3];

    private Step(String text) {
        this.text = text;
        String[] sides = text.split("=");
        String[] words = sides[0].trim().split(" +");
        due = sides.length < 2 ? null : ANSWERS.getOrDefault(sides[1].trim(), sides[1].trim());
        for (int i = 1; i < words.length; i++) {
            given[i - 1] = number(words[i]);
        }
        int ofTrain = OF_TRAIN.indexOf(words[0]);
        int ofPlatform = OF_PLATFORM.indexOf(words[0]);
        if (ofTrain >= 0 || ofPlatform >= 0) {
            given[1] = Math.max(ofTrain, ofPlatform);
        }
        call = ofTrain >= 0 ? "trainIs" : ofPlatform >= 0 ? "platformIs" : words[0];
    }

    static List<Step> all(String script) {
        List<Step> steps = new ArrayList<>();
        for (String line : script.split("\n")) {
            Arrays.stream(line.replaceAll("#.*", "").split(";")).map(String::trim)
                .filter(text -> !text.isEmpty()).forEach(text -> steps.add(new Step(text)));
        }
        return steps;
    }

    private static int number(String word) {
        switch (word) {
            case "true": return 1;
            case "false": return 0;
            case "least": return Integer.MIN_VALUE;
            case "greatest": return Integer.MAX_VALUE;
            default: return Integer.parseInt(word);
        }
    }

    String made(Probe.Asked asked) {
        return asked.answer(call, given[0], given[1], given[2]);
    }

    boolean isRefused() {
        return due != null && Calls.isThrown(due);
    }
}
