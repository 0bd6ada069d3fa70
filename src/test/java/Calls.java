/** The calls of the class by their names; a boolean is told, and answered, as 1 or 0. */
final class Calls {
    private Calls() {
    }

    static Probe.Asked of(HeadwayDeep x) {
        return (call, a, b, c) -> answer(x, call, a, b, c);
    }

    /** What a call answers, or the name of what it throws. */
    static String answer(HeadwayDeep x, String call, int a, int b, int c) {
        try {
            return made(x, call, a, b, c);
        } catch (RuntimeException e) {
            return e.getClass().getSimpleName();
        }
    }

    static boolean isThrown(String answer) {
        return answer.endsWith("Exception");
    }

    private static String made(HeadwayDeep x, String call, int a, int b, int c) {
        switch (call) {
            case "platform": return told(x.platform(a));
            case "beacon": return told(x.beacon(a));
            case "works": return told(x.works(a, b == 1));
            case "zone": return told(x.zone(a, b));
            case "close": return told(x.close(a, b == 1));
            case "speed": return told(x.speed(a));
            case "train": return told(x.train(a));
            case "trainIs": return told(x.trainIs(a, b));
            case "slip": return told(x.slip(a, b));
            case "silent": return told(x.silent(a, b == 1));
            case "emergency": return told(x.emergency(a));
            case "pass": return told(x.pass(a));
            case "stop":
                x.stop(a, b);
                return PlainModel.NOTHING;
            case "bar": return told(x.bar(a == 1, b, c));
            case "open": return told(x.open(a, b));
            case "shut":
                x.shut(a);
                return PlainModel.NOTHING;
            case "hold": return told(x.hold(a, b));
            case "depart": return told(x.depart(a));
            case "rate": return told(x.rate(a, b));
            case "platformIs": return told(x.platformIs(a, b));
            case "record": return told(x.record(a, b));
            case "placeAnew": return told(x.placeAnew(a));
            case "isSafe": return told(x.isSafe());
            default: throw new AssertionError("there is no call " + call);
        }
    }

    private static String told(int number) {
        return String.valueOf(number);
    }

    private static String told(boolean isSo) {
        return isSo ? "1" : "0";
    }
}
