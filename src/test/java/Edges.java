import java.io.IOException;
import java.util.List;
import java.util.function.Function;

/** Quotes sentences of the document, and runs scripts of calls that ask for them. */
final class Edges {
    private static final int MOST_CALLS = 512;

    private final Check check = new Check("EdgeTest");
    private final Doc doc = new Doc();
    private String quoted = "";
    private int runs;

    Edges() throws IOException {
    }

    /** What the runs behind it are for: words of the document. */
    void says(String part, String words) {
        check.same("a run for '" + quoted + "'", runs > 0 || quoted.isEmpty(), true);
        quoted = part + ": " + words;
        runs = 0;
        check.same("the document says '" + quoted + "'", doc.says(part, words), true);
    }

    /** Makes the calls on a new object; one that is to be refused must also leave all as it was. */
    void run(String script) {
        runs++;
        List<Step> steps = Step.all(script);
        check.same(quoted + ": calls, at most " + MOST_CALLS, steps.size() <= MOST_CALLS, true);
        HeadwayDeep x = new HeadwayDeep();
        PlainModel model = new PlainModel();
        for (int i = 0; i < steps.size(); i++) {
            Step step = steps.get(i);
            String told = quoted + ": call " + (i + 1) + ", " + step.text;
            String answer = step.made(x);
            check.same(told + ", answered " + answer, isDue(step, answer), true);
            check.same(told + ", beside the model", answer.equals(step.modelled(model)), true);
            if (step.isRefused()) {
                leavesAllAsItWas(told, steps.subList(0, i), step);
            }
        }
    }

    private static boolean isDue(Step step, String answer) {
        return step.due == null ? !Calls.isThrown(answer) : answer.equals(step.due);
    }

    private void leavesAllAsItWas(String told, List<Step> ahead, Step refused) {
        HeadwayDeep x = made(ahead);
        List<String> seen = Probe.seen(x);
        refused.made(x);
        same(told + ", as seen", Probe.seen(x), seen);
        answersTheSame(told + ", further on", ahead, refused, Probe::onward);
        answersTheSame(told + ", as told", ahead, refused, Probe::told);
    }

    /** Beside an object of the same calls without the refused one. */
    private void answersTheSame(String told, List<Step> ahead, Step refused,
            Function<HeadwayDeep, List<String>> probe) {
        HeadwayDeep x = made(ahead);
        refused.made(x);
        same(told, probe.apply(x), probe.apply(made(ahead)));
    }

    private void same(String told, List<String> answers, List<String> due) {
        check.same(told + ", number of answers", answers.size(), due.size());
        for (int i = 0; i < Math.min(answers.size(), due.size()); i++) {
            String answer = answers.get(i);
            boolean isSame = answer.equals(due.get(i));
            check.same(told + ": " + answer + " for " + due.get(i), isSame, true);
        }
    }

    private static HeadwayDeep made(List<Step> steps) {
        HeadwayDeep x = new HeadwayDeep();
        steps.forEach(step -> step.made(x));
        return x;
    }

    void end() {
        check.same("a run for '" + quoted + "'", runs > 0, true);
        check.same("parts of the document", doc.parts(), 25);
        for (String sentence : doc.unquoted()) {
            check.same("a test for '" + sentence + "'", false, true);
        }
        check.end();
    }
}
