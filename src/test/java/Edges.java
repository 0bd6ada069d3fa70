import java.io.IOException;
import java.util.List;
import java.util.function.Function;

/** Quotes sentences of the document, and runs scripts of calls that ask for them. */
final class Edges {
    private static final int MOST_CALLS = 512;

    private final Check check = new Check("EdgeTest");
    private final Doc doc = new Doc();
    private String quoted = "";
    private int runs;

    Edges() throws IOException {
    }

    /** What the runs behind it are for: words of the document. */
    void says(String part, String words) {
        check.same("a run for '" + quoted + "'", runs > 0 || quoted.isEmpty(), true);
        quoted = part + ": " + words;
        runs = 0;
        check.same("the document says '" + quoted + "'", doc.says(part, words), true);
    }

    /** What no run of calls can ask for, as it is of the class itself. */
    void sees(String told, boolean isSo) {
        runs++;
        check.same(quoted + ": " + told, isSo, true);
    }

    /** Makes the calls on a new object: the answers must be those told, and all that they leave that of the model. */
    void run(String script) {
        runs++;
        List<Step> steps = Step.all(script);
        check.same(quoted + ": calls, at most " + MOST_CALLS, steps.size() <= MOST_CALLS, true);
        Probe.Asked made = Calls.of(new HeadwayDeep());
        for (int i = 0; i < steps.size(); i++) {
            Step step = steps.get(i);
            String told = quoted + ": call " + (i + 1) + ", " + step.text;
            String answer = step.made(made);
            check.same(told + ", answered " + answer, isDue(step, answer), true);
            if (step.isRefused()) {
                leavesAllAsItWas(told, steps.subList(0, i), step);
            }
        }
        String told = quoted + ": behind '" + script.strip() + "'";
        same(told + ", further on", Probe.onward(made(steps)), Probe.onward(modelled(steps)));
        same(told + ", as told", Probe.told(made(steps)), Probe.told(modelled(steps)));
    }

    private static boolean isDue(Step step, String answer) {
        return step.due == null ? !Calls.isThrown(answer) : answer.equals(step.due);
    }

    private void leavesAllAsItWas(String told, List<Step> ahead, Step refused) {
        Probe.Asked asked = made(ahead);
        List<String> seen = Probe.seen(asked);
        refused.made(asked);
        same(told + ", as seen", Probe.seen(asked), seen);
        answersTheSame(told + ", further on", ahead, refused, Probe::onward);
        answersTheSame(told + ", as told", ahead, refused, Probe::told);
    }

    /** Beside an object of the same calls without the refused one. */
    private void answersTheSame(String told, List<Step> ahead, Step refused,
            Function<Probe.Asked, List<String>> probe) {
        Probe.Asked asked = made(ahead);
        refused.made(asked);
        same(told, probe.apply(asked), probe.apply(made(ahead)));
    }

    private void same(String told, List<String> answers, List<String> due) {
        check.same(told + ", number of answers", answers.size(), due.size());
        for (int i = 0; i < Math.min(answers.size(), due.size()); i++) {
            String answer = answers.get(i);
            boolean isSame = answer.equals(due.get(i));
            check.same(told + ": " + answer + " for " + due.get(i), isSame, true);
        }
    }

    private static Probe.Asked made(List<Step> steps) {
        Probe.Asked asked = Calls.of(new HeadwayDeep());
        steps.forEach(step -> step.made(asked));
        return asked;
    }

    private static Probe.Asked modelled(List<Step> steps) {
        PlainModel model = new PlainModel();
        steps.forEach(step -> step.made(model::answer));
        return model::answer;
    }

    void end() {
        check.same("a run for '" + quoted + "'", runs > 0, true);
        check.same("parts of the document", doc.parts(), 28);
        for (String sentence : doc.unquoted()) {
            check.same("a test for '" + sentence + "'", false, true);
        }
        check.end();
    }
}
