import java.lang.reflect.Array;
import java.lang.reflect.Field;

/**
 * Puts a train's numbers in by hand. By the document's rules no run of calls leads to a line that is not safe, or
 * to a train beyond its STOP, so that only a state put in so can ask whether isSafe, or open, tells one.
 * How the state is held is free: where the class holds it otherwise, the names here are to follow.
 */
final class ByHand {
    private final HeadwayDeep line = new HeadwayDeep();

    /** Trains at rest where they are put in, which know their PLACES. */
    ByHand(int... metres) {
        for (int metre : metres) {
            line.train(metre);
        }
    }

    ByHand made(String script) {
        Step.all(script).forEach(step -> step.made(Calls.of(line)));
        return this;
    }

    /** What one call answers. */
    String answers(String step) {
        return Step.all(step).get(0).made(Calls.of(line));
    }

    ByHand with(int train, String name, int value) {
        try {
            Field trains = HeadwayDeep.class.getDeclaredField("trains");
            trains.setAccessible(true);
            Object told = Array.get(trains.get(line), train);
            Field field = told.getClass().getDeclaredField(name);
            field.setAccessible(true);
            field.setInt(told, value);
            return this;
        } catch (ReflectiveOperationException e) {
            throw new AssertionError("the class has no " + name + " of a train any more", e);
        }
    }

    boolean isSafe() {
        return line.isSafe();
    }
}
