import java.util.ArrayList;
import java.util.BitSet;
import java.util.List;
import java.util.Map;
import java.util.TreeMap;

/**
 * The document once more, written for being read beside it and in another way than the class:
 * metres are sets, the WAY TO STOP is gone step by step, speeds are tried out, and what went is kept whole.
 */
final class PlainModel {
    static final String BAD = "IllegalArgumentException";
    static final String NOT_NOW = "IllegalStateException";
    static final String NO_SUCH = "IndexOutOfBoundsException";
    static final String NOTHING = "nothing";

    private static final class Platform {
        int mark;
        int barred;
        int rate;
        int waiting;
        final List<Integer> departures = new ArrayList<>();
    }

    private static final class Train {
        int metre;
        int place;
        int low;
        int high;
        int report;
        int limit;
        int speed;
        int slip;
        boolean silent;
        boolean emergency;
        int stop = -1;
        int barred;
        int doors = -1;
        int people;
        int held;
        final Map<Integer, Integer> speeds = new TreeMap<>();
        final Map<Integer, Integer> slips = new TreeMap<>();
    }

    private final List<Platform> platforms = new ArrayList<>();
    private final List<Integer> beacons = new ArrayList<>();
    private final List<Boolean> working = new ArrayList<>();
    private final List<int[]> zones = new ArrayList<>();
    private final List<Boolean> closed = new ArrayList<>();
    private final List<Train> trains = new ArrayList<>();
    private int lineSpeed = 15;
    private int tick;

    /** What a call answers: a number (a boolean counts 1 or 0), "nothing", or the exception's name. */
    String answer(String call, int a, int b, int c) {
        switch (call) {
            case "platform": return platform(a);
            case "beacon": return beacon(a);
            case "works": return has(beacons, a) ? told(working.set(a, b == 1) ? 1 : 0) : NO_SUCH;
            case "zone": return zone(a, b);
            case "close": return has(zones, a) ? close(a, b == 1) : NO_SUCH;
            case "speed": return speed(a);
            case "train": return train(a);
            case "pass": return pass(a);
            case "isSafe": return told(isSafe() ? 1 : 0);
            case "rate": return has(platforms, a) ? rate(platforms.get(a), b) : NO_SUCH;
            case "platformIs": return has(platforms, a) ? platformIs(platforms.get(a), b) : NO_SUCH;
            case "bar": return bar(a == 1, b, c);
            default: return has(trains, a) ? ofTrain(call, trains.get(a), b) : NO_SUCH;
        }
    }

    private String ofTrain(String call, Train train, int b) {
        switch (call) {
            case "trainIs": return trainIs(train, b);
            case "slip": return slip(train, b);
            case "silent": return silent(train, b == 1);
            case "emergency":
                train.emergency = train.emergency || train.speed > 0;
                return told(train.emergency ? 1 : 0);
            case "stop": return stop(train, b);
            case "open": return open(train, b);
            case "shut":
                if (train.doors == -1) {
                    return NOT_NOW;
                }
                train.doors = -1;
                return NOTHING;
            case "hold": return hold(train, b);
            case "depart": return depart(train);
            case "record":
                if (b < 1 || b > tick) {
                    return BAD;
                }
                return told(train.speeds.getOrDefault(b, -1));
            case "placeAnew": return told(placeAnew(train));
            default: throw new AssertionError(call);
        }
    }

    private static boolean has(List<?> list, int number) {
        return number >= 0 && number < list.size();
    }

    private static String told(int number) {
        return String.valueOf(number);
    }

    private static int way(int speed) {
        int way = 0;
        for (int step = 1; step <= speed; step++) {
            way += step + 1;
        }
        return way;
    }

    private static boolean keeps(Train train, int metre) {
        return train.silent ? train.limit <= metre : train.high + way(train.speed) <= metre;
    }

    private static BitSet metres(int from, int to) {
        BitSet set = new BitSet();
        set.set(from, to + 1);
        return set;
    }

    private static BitSet covered(Train train) {
        return metres(train.low - 100, train.high);
    }

    private boolean atStop(Train train) {
        if (train.stop == -1 || train.speed != 0) {
            return false;
        }
        int mark = platforms.get(train.stop).mark;
        return train.low >= mark - 1 && train.high <= mark + 1;
    }

    private int given(Train train) {
        int given = 5000;
        TreeMap<Integer, Train> ahead = new TreeMap<>();
        for (Train other : trains) {
            ahead.put(other.place, other);
        }
        Map.Entry<Integer, Train> next = ahead.higherEntry(train.place);
        if (next != null) {
            given = Math.min(given, next.getValue().report - 120);
        }
        for (int i = 0; i < zones.size(); i++) {
            if (closed.get(i) && zones.get(i)[0] >= train.high) {
                given = Math.min(given, zones.get(i)[0]);
            }
        }
        return given;
    }

    private void deal() {
        for (Train train : trains) {
            train.limit = train.silent ? train.limit : given(train);
        }
    }

    private String platform(int mark) {
        if (mark < 100 || mark > 5000) {
            return BAD;
        }
        if (platforms.size() == 6) {
            return NOT_NOW;
        }
        Platform platform = new Platform();
        platform.mark = mark;
        platforms.add(platform);
        return told(platforms.size() - 1);
    }

    private String beacon(int metre) {
        if (metre < 0 || metre > 5000) {
            return BAD;
        }
        if (beacons.size() == 12) {
            return NOT_NOW;
        }
        beacons.add(metre);
        working.add(true);
        return told(beacons.size() - 1);
    }

    private String zone(int from, int to) {
        if (from < 0 || from > 4999 || to <= from || to > 5000) {
            return BAD;
        }
        if (zones.size() == 4) {
            return NOT_NOW;
        }
        zones.add(new int[] {from, to});
        closed.add(false);
        return told(zones.size() - 1);
    }

    private String close(int number, boolean isSo) {
        int[] zone = zones.get(number);
        if (isSo && !closed.get(number)) {
            for (Train train : trains) {
                boolean isBehind = train.high < zone[0];
                if (covered(train).intersects(metres(zone[0], zone[1])) || isBehind && !keeps(train, zone[0])) {
                    return NOT_NOW;
                }
            }
        }
        boolean was = closed.set(number, isSo);
        deal();
        return told(was ? 1 : 0);
    }

    private String speed(int speed) {
        if (speed < 1 || speed > 20) {
            return BAD;
        }
        int was = lineSpeed;
        lineSpeed = speed;
        return told(was);
    }

    private String train(int metre) {
        if (metre < 100 || metre > 5000) {
            return BAD;
        }
        if (trains.size() == 5) {
            return NOT_NOW;
        }
        for (Train other : trains) {
            if (other.place < metre && !keeps(other, metre - 120)) {
                return NOT_NOW;
            }
            if (other.place >= metre && other.report - 120 < metre) {
                return NOT_NOW;
            }
        }
        for (int i = 0; i < zones.size(); i++) {
            BitSet zone = metres(zones.get(i)[0], zones.get(i)[1]);
            if (closed.get(i) && zone.intersects(metres(metre - 100, metre))) {
                return NOT_NOW;
            }
        }
        Train train = new Train();
        train.metre = metre;
        train.place = metre;
        train.low = metre;
        train.high = metre;
        train.report = metre;
        trains.add(train);
        deal();
        return told(trains.size() - 1);
    }

    private String trainIs(Train train, int what) {
        if (what < 0 || what > 10) {
            return BAD;
        }
        int[] all = {train.place, train.low, train.high, train.speed, train.limit, train.emergency ? 1 : 0,
            train.silent ? 1 : 0, train.stop, train.doors, train.people, train.held};
        return told(all[what]);
    }

    private static String slip(Train train, int slip) {
        if (Math.abs((long) slip) > 1) {
            return BAD;
        }
        int was = train.slip;
        train.slip = slip;
        return told(was);
    }

    private static String silent(Train train, boolean isSo) {
        boolean was = train.silent;
        train.silent = isSo;
        return told(was ? 1 : 0);
    }

    private String stop(Train train, int number) {
        if (!has(platforms, number)) {
            return NO_SUCH;
        }
        if (train.silent || train.doors != -1 || !keeps(train, platforms.get(number).mark + 1)) {
            return NOT_NOW;
        }
        train.stop = number;
        return NOTHING;
    }

    private String bar(boolean isOfTrain, int number, int doors) {
        if (!has(isOfTrain ? trains : platforms, number)) {
            return NO_SUCH;
        }
        if (doors < 0 || doors > 15) {
            return BAD;
        }
        int was = isOfTrain ? trains.get(number).barred : platforms.get(number).barred;
        if (isOfTrain) {
            trains.get(number).barred = doors;
        } else {
            platforms.get(number).barred = doors;
        }
        return told(was);
    }

    private String open(Train train, int off) {
        if (off < 0 || off > 120) {
            return BAD;
        }
        if (!atStop(train) || train.doors != -1) {
            return NOT_NOW;
        }
        train.doors = 0;
        for (int door = 0; door < 4; door++) {
            int bit = 1 << door;
            if ((train.barred & bit) == 0 && (platforms.get(train.stop).barred & bit) == 0) {
                train.doors += bit;
            }
        }
        train.people -= Math.min(off, train.people);
        return told(train.doors);
    }

    private static String hold(Train train, int ticks) {
        if (ticks < 1 || ticks > 60) {
            return BAD;
        }
        if (train.speed > 0) {
            return NOT_NOW;
        }
        train.held = Math.min(99, train.held + ticks);
        return told(train.held);
    }

    private String depart(Train train) {
        if (!atStop(train) || train.doors != -1 || train.held > 0) {
            return NOT_NOW;
        }
        int left = train.stop;
        platforms.get(left).departures.add(tick);
        train.stop = -1;
        return told(left);
    }

    private static String rate(Platform platform, int rate) {
        if (rate < 0 || rate > 9) {
            return BAD;
        }
        int was = platform.rate;
        platform.rate = rate;
        return told(was);
    }

    private static String platformIs(Platform platform, int what) {
        if (what < 0 || what > 3) {
            return BAD;
        }
        List<Integer> all = platform.departures;
        int count = all.size();
        int gap = count < 2 ? -1 : all.get(count - 1) - all.get(count - 2);
        return told(new int[] {platform.mark, platform.waiting, count, gap}[what]);
    }

    private int placeAnew(Train train) {
        int place = train.metre;
        for (int gone : train.speeds.keySet()) {
            int speed = train.speeds.get(gone);
            place += speed == 0 ? 0 : speed + train.slips.get(gone);
        }
        return place;
    }

    private boolean isSafe() {
        BitSet taken = new BitSet();
        for (Train train : trains) {
            boolean isIn = train.low <= train.place && train.place <= train.high && train.high <= train.limit;
            if (!isIn || taken.intersects(covered(train))) {
                return false;
            }
            taken.or(covered(train));
        }
        return true;
    }

    private String pass(int ticks) {
        if (ticks < 1 || ticks > 99) {
            return BAD;
        }
        if (tick + ticks > 999) {
            return NOT_NOW;
        }
        for (int i = 0; i < ticks; i++) {
            tick++;
            trains.stream().filter(train -> !train.silent).forEach(train -> train.report = train.low);
            deal();
            trains.forEach(this::findSpeed);
            trains.forEach(this::go);
            trains.forEach(train -> train.held -= train.held > 0 ? 1 : 0);
            platforms.forEach(platform -> platform.waiting = Math.min(999, platform.waiting + platform.rate));
            trains.forEach(this::board);
        }
        return told(tick);
    }

    private void findSpeed(Train train) {
        int old = train.speed;
        if (train.emergency) {
            train.speed = old < 3 ? 0 : old - 3;
            train.emergency = train.speed != 0;
            return;
        }
        train.speed = 0;
        if (train.doors != -1 || train.held > 0) {
            return;
        }
        for (int tried = 0; tried <= old + 1; tried++) {
            int end = train.high + way(tried);
            boolean isOfLine = tried <= lineSpeed || tried <= old - 1;
            boolean isOfStop = train.stop == -1 || end <= platforms.get(train.stop).mark + 1;
            if (isOfLine && isOfStop && end <= train.limit) {
                train.speed = tried;
            }
        }
    }

    private void go(Train train) {
        train.speeds.put(tick, train.speed);
        train.slips.put(tick, train.slip);
        if (train.speed == 0) {
            return;
        }
        int was = train.place;
        train.place += train.speed + train.slip;
        train.low += train.speed - 1;
        train.high += train.speed + 1;
        for (int i = 0; i < beacons.size(); i++) {
            if (working.get(i) && was < beacons.get(i) && beacons.get(i) <= train.place) {
                train.low = train.place;
                train.high = train.place;
            }
        }
    }

    private void board(Train train) {
        if (train.doors == -1) {
            return;
        }
        Platform platform = platforms.get(train.stop);
        for (int i = 0; i < 2 * Integer.bitCount(train.doors); i++) {
            if (platform.waiting > 0 && train.people < 120) {
                platform.waiting--;
                train.people++;
            }
        }
    }
}
