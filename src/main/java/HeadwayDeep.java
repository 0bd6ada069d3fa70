public final class HeadwayDeep {
    public static final int NONE = -1;

    private static final int LINE_END = 5000;
    private static final int TRAIN_LENGTH = 100;
    // From a REPORT back to the LIMIT of the one behind: a train's length and 20 metres to spare.
    private static final int REPORT_GAP = 120;
    private static final int ROOM = 120;
    private static final int ALL_DOORS = 15;
    private static final int BOARD_A_DOOR = 2;
    private static final int EMERGENCY_BRAKE = 3;
    private static final int STOP_SPAN = 1;

    private static final int MOST_PLATFORMS = 6;
    private static final int MOST_BEACONS = 12;
    private static final int MOST_ZONES = 4;
    private static final int MOST_TRAINS = 5;
    private static final int MOST_SPEED = 20;
    private static final int FIRST_SPEED = 15;
    private static final int MOST_TICK = 999;
    private static final int MOST_PASS = 99;
    private static final int MOST_WAIT = 999;
    private static final int MOST_RATE = 9;
    private static final int MOST_HELD = 99;
    private static final int MOST_HOLD = 60;
    private static final int LAST_OF_TRAIN = 10;
    private static final int LAST_OF_PLATFORM = 3;

    private final Platform[] platforms = new Platform[MOST_PLATFORMS];
    private final Beacon[] beacons = new Beacon[MOST_BEACONS];
    private final Zone[] zones = new Zone[MOST_ZONES];
    private final Train[] trains = new Train[MOST_TRAINS];
    private int platformCount;
    private int beaconCount;
    private int zoneCount;
    private int trainCount;
    private int lineSpeed = FIRST_SPEED;
    private int tick;

    public HeadwayDeep() {
    }

    // ---- the line

    public int platform(int mark) throws IllegalArgumentException, IllegalStateException {
        askRange(mark, TRAIN_LENGTH, LINE_END);
        askThat(platformCount < MOST_PLATFORMS);
        platforms[platformCount] = new Platform(platformCount, mark);
        platformCount++;
        return platformCount - 1;
    }

    public int beacon(int metre) throws IllegalArgumentException, IllegalStateException {
        askRange(metre, 0, LINE_END);
        askThat(beaconCount < MOST_BEACONS);
        beacons[beaconCount] = new Beacon(metre);
        beaconCount++;
        return beaconCount - 1;
    }

    public boolean works(int beacon, boolean isSo) throws IndexOutOfBoundsException {
        askNumber(beacon, beaconCount);
        Beacon told = beacons[beacon];
        boolean was = told.isWorking;
        told.isWorking = isSo;
        return was;
    }

    public int zone(int from, int to) throws IllegalArgumentException, IllegalStateException {
        askRange(from, 0, LINE_END - 1);
        askRange(to, from + 1, LINE_END);
        askThat(zoneCount < MOST_ZONES);
        zones[zoneCount] = new Zone(from, to);
        zoneCount++;
        return zoneCount - 1;
    }

    public boolean close(int zone, boolean isSo) throws IndexOutOfBoundsException, IllegalStateException {
        askNumber(zone, zoneCount);
        Zone told = zones[zone];
        boolean was = told.isClosed;
        askThat(!isSo || was || canBeClosed(told));
        told.isClosed = isSo;
        dealLimits();
        return was;
    }

    public int speed(int speed) throws IllegalArgumentException {
        askRange(speed, 1, MOST_SPEED);
        int was = lineSpeed;
        lineSpeed = speed;
        return was;
    }

    // ---- trains

    public int train(int metre) throws IllegalArgumentException, IllegalStateException {
        askRange(metre, TRAIN_LENGTH, LINE_END);
        askThat(trainCount < MOST_TRAINS && canBePutIn(metre));
        trains[trainCount] = new Train(metre, tick);
        trainCount++;
        dealLimits();
        return trainCount - 1;
    }

    public int trainIs(int train, int what) throws IndexOutOfBoundsException, IllegalArgumentException {
        askNumber(train, trainCount);
        askRange(what, 0, LAST_OF_TRAIN);
        return trains[train].tell(what);
    }

    public int slip(int train, int slip) throws IndexOutOfBoundsException, IllegalArgumentException {
        askNumber(train, trainCount);
        askRange(slip, -1, 1);
        Train told = trains[train];
        int was = told.slip;
        told.slip = slip;
        return was;
    }

    public boolean silent(int train, boolean isSo) throws IndexOutOfBoundsException {
        askNumber(train, trainCount);
        Train told = trains[train];
        boolean was = told.isSilent;
        told.isSilent = isSo;
        return was;
    }

    public boolean emergency(int train) throws IndexOutOfBoundsException {
        askNumber(train, trainCount);
        Train told = trains[train];
        if (told.speed > 0) {
            told.isInEmergency = true;
        }
        return told.isInEmergency;
    }

    public int pass(int ticks) throws IllegalArgumentException, IllegalStateException {
        askRange(ticks, 1, MOST_PASS);
        askThat(tick + ticks <= MOST_TICK);
        for (int i = 0; i < ticks; i++) {
            passOne();
        }
        return tick;
    }

    // ---- stops, doors

    public void stop(int train, int platform) throws IndexOutOfBoundsException, IllegalStateException {
        askNumber(train, trainCount);
        askNumber(platform, platformCount);
        Train told = trains[train];
        Platform next = platforms[platform];
        askThat(!told.isSilent && !told.hasOpenDoors() && told.keeps(next.mark + STOP_SPAN));
        told.stop = next;
    }

    public int bar(boolean isOfTrain, int number, int doors)
            throws IndexOutOfBoundsException, IllegalArgumentException {
        askNumber(number, isOfTrain ? trainCount : platformCount);
        askRange(doors, 0, ALL_DOORS);
        int was;
        if (isOfTrain) {
            was = trains[number].barred;
            trains[number].barred = doors;
        } else {
            was = platforms[number].barred;
            platforms[number].barred = doors;
        }
        return was;
    }

    public int open(int train, int off)
            throws IndexOutOfBoundsException, IllegalArgumentException, IllegalStateException {
        askNumber(train, trainCount);
        askRange(off, 0, ROOM);
        Train told = trains[train];
        askThat(told.isAtStop() && !told.hasOpenDoors());
        told.openDoors(off);
        return told.doors;
    }

    public void shut(int train) throws IndexOutOfBoundsException, IllegalStateException {
        askNumber(train, trainCount);
        Train told = trains[train];
        askThat(told.hasOpenDoors());
        told.doors = NONE;
    }

    public int hold(int train, int ticks)
            throws IndexOutOfBoundsException, IllegalArgumentException, IllegalStateException {
        askNumber(train, trainCount);
        askRange(ticks, 1, MOST_HOLD);
        Train told = trains[train];
        askThat(told.speed == 0);
        told.held = Math.min(told.held + ticks, MOST_HELD);
        return told.held;
    }

    public int depart(int train) throws IndexOutOfBoundsException, IllegalStateException {
        askNumber(train, trainCount);
        Train told = trains[train];
        Platform left = told.stop;
        if (left == null || !told.canDepart()) {
            throw new IllegalStateException("it does not depart");
        }
        told.stop = null;
        left.countDeparture(tick);
        return left.number;
    }

    public int rate(int platform, int rate) throws IndexOutOfBoundsException, IllegalArgumentException {
        askNumber(platform, platformCount);
        askRange(rate, 0, MOST_RATE);
        Platform told = platforms[platform];
        int was = told.rate;
        told.rate = rate;
        return was;
    }

    public int platformIs(int platform, int what) throws IndexOutOfBoundsException, IllegalArgumentException {
        askNumber(platform, platformCount);
        askRange(what, 0, LAST_OF_PLATFORM);
        return platforms[platform].tell(what);
    }

    // ---- records

    public int record(int train, int tick) throws IndexOutOfBoundsException, IllegalArgumentException {
        askNumber(train, trainCount);
        askRange(tick, 1, this.tick);
        return trains[train].speedIn(tick);
    }

    public int placeAnew(int train) throws IndexOutOfBoundsException {
        askNumber(train, trainCount);
        return trains[train].playAgain(tick);
    }

    public boolean isSafe() {
        for (int i = 0; i < trainCount; i++) {
            if (!trains[i].isInItsBounds()) {
                return false;
            }
            for (int k = 0; k < i; k++) {
                if (trains[i].mayCover(trains[k].low - TRAIN_LENGTH, trains[k].high)) {
                    return false;
                }
            }
        }
        return true;
    }

    // ---- what the calls ask for

    private static void askNumber(int number, int count) {
        if (number < 0 || number >= count) {
            throw new IndexOutOfBoundsException("there is none of this number");
        }
    }

    private static void askRange(int value, int least, int most) {
        if (value < least || value > most) {
            throw new IllegalArgumentException("an argument is out of its range");
        }
    }

    private static void askThat(boolean isSo) {
        if (!isSo) {
            throw new IllegalStateException("this cannot be as things stand");
        }
    }

    private boolean canBeClosed(Zone zone) {
        for (int i = 0; i < trainCount; i++) {
            Train train = trains[i];
            if (train.mayCover(zone.from, zone.to)) {
                return false;
            }
            if (train.high < zone.from && !train.keeps(zone.from)) {
                return false;
            }
        }
        return true;
    }

    private boolean canBePutIn(int metre) {
        for (int i = 0; i < trainCount; i++) {
            Train other = trains[i];
            boolean isFar = other.place < metre
                ? other.keeps(metre - REPORT_GAP)
                : other.report - REPORT_GAP >= metre;
            if (!isFar) {
                return false;
            }
        }
        for (int i = 0; i < zoneCount; i++) {
            Zone zone = zones[i];
            if (zone.isClosed && zone.from <= metre && zone.to >= metre - TRAIN_LENGTH) {
                return false;
            }
        }
        return true;
    }

    // ---- LIMITS

    private void dealLimits() {
        for (int i = 0; i < trainCount; i++) {
            Train train = trains[i];
            if (!train.isSilent) {
                train.limit = limitFor(train);
            }
        }
    }

    private int limitFor(Train train) {
        int least = LINE_END;
        Train ahead = oneAheadOf(train);
        if (ahead != null) {
            least = Math.min(least, ahead.report - REPORT_GAP);
        }
        for (int i = 0; i < zoneCount; i++) {
            Zone zone = zones[i];
            if (zone.isClosed && zone.from >= train.high) {
                least = Math.min(least, zone.from);
            }
        }
        return least;
    }

    private Train oneAheadOf(Train train) {
        Train ahead = null;
        for (int i = 0; i < trainCount; i++) {
            Train other = trains[i];
            if (other.place > train.place && (ahead == null || other.place < ahead.place)) {
                ahead = other;
            }
        }
        return ahead;
    }

    // ---- a tick

    private void passOne() {
        tick++;
        takeReports();
        dealLimits();
        for (int i = 0; i < trainCount; i++) {
            trains[i].findSpeed(lineSpeed);
        }
        for (int i = 0; i < trainCount; i++) {
            move(trains[i]);
        }
        countHolding();
        letPeopleCome();
        letPeopleBoard();
    }

    private void takeReports() {
        for (int i = 0; i < trainCount; i++) {
            Train train = trains[i];
            if (!train.isSilent) {
                train.report = train.low;
            }
        }
    }

    private void move(Train train) {
        int placeBefore = train.place;
        train.go(tick);
        if (meetsBeacon(placeBefore, train.place)) {
            train.low = train.place;
            train.high = train.place;
        }
    }

    private boolean meetsBeacon(int above, int atMost) {
        for (int i = 0; i < beaconCount; i++) {
            Beacon beacon = beacons[i];
            if (beacon.isWorking && beacon.metre > above && beacon.metre <= atMost) {
                return true;
            }
        }
        return false;
    }

    private void countHolding() {
        for (int i = 0; i < trainCount; i++) {
            trains[i].held = Math.max(trains[i].held - 1, 0);
        }
    }

    private void letPeopleCome() {
        for (int i = 0; i < platformCount; i++) {
            Platform platform = platforms[i];
            platform.waiting = Math.min(platform.waiting + platform.rate, MOST_WAIT);
        }
    }

    private void letPeopleBoard() {
        for (int i = 0; i < trainCount; i++) {
            trains[i].takePeople();
        }
    }

    private static final class Beacon {
        final int metre;
        boolean isWorking = true;

        Beacon(int metre) {
            this.metre = metre;
        }
    }

    private static final class Zone {
        final int from;
        final int to;
        boolean isClosed;

        Zone(int from, int to) {
            this.from = from;
            this.to = to;
        }
    }

    private static final class Platform {
        final int number;
        final int mark;
        int barred;
        int rate;
        int waiting;
        int departures;
        int latestDeparture;
        int gap = NONE;

        Platform(int number, int mark) {
            this.number = number;
            this.mark = mark;
        }

        int tell(int what) {
            switch (what) {
                case 0: return mark;
                case 1: return waiting;
                case 2: return departures;
                default: return gap;
            }
        }

        void countDeparture(int tick) {
            if (departures > 0) {
                gap = tick - latestDeparture;
            }
            departures++;
            latestDeparture = tick;
        }
    }

    private static final class Train {
        final int firstPlace;
        final int firstTick;
        final byte[] speeds = new byte[MOST_TICK + 1];
        final byte[] steps = new byte[MOST_TICK + 1];
        int place;
        int low;
        int high;
        int report;
        int limit;
        int speed;
        int slip;
        boolean isSilent;
        boolean isInEmergency;
        Platform stop;
        int barred;
        int doors = NONE;
        int people;
        int held;

        Train(int metre, int tick) {
            firstPlace = metre;
            firstTick = tick;
            place = metre;
            low = metre;
            high = metre;
            report = metre;
        }

        int tell(int what) {
            switch (what) {
                case 0: return place;
                case 1: return low;
                case 2: return high;
                case 3: return speed;
                case 4: return limit;
                case 5: return isInEmergency ? 1 : 0;
                case 6: return isSilent ? 1 : 0;
                case 7: return stop == null ? NONE : stop.number;
                case 8: return doors;
                case 9: return people;
                default: return held;
            }
        }

        static int wayToStop(int speed) {
            return speed * (speed + 1) / 2 + speed;
        }

        boolean keeps(int metre) {
            int farthest = isSilent ? limit : high + wayToStop(speed);
            return farthest <= metre;
        }

        boolean mayCover(int from, int to) {
            return low - TRAIN_LENGTH <= to && high >= from;
        }

        boolean isInItsBounds() {
            return low <= place && place <= high && high <= limit;
        }

        boolean hasOpenDoors() {
            return doors != NONE;
        }

        boolean isAtStop() {
            return stop != null && speed == 0
                && low >= stop.mark - STOP_SPAN && high <= stop.mark + STOP_SPAN;
        }

        boolean canDepart() {
            return isAtStop() && !hasOpenDoors() && held == 0;
        }

        void findSpeed(int lineSpeed) {
            if (isInEmergency) {
                speed = Math.max(speed - EMERGENCY_BRAKE, 0);
                isInEmergency = speed > 0;
            } else if (hasOpenDoors() || held > 0) {
                speed = 0;
            } else {
                speed = greatestSpeed(lineSpeed);
            }
        }

        int greatestSpeed(int lineSpeed) {
            int end = stop == null ? limit : Math.min(limit, stop.mark + STOP_SPAN);
            int next = Math.min(speed + 1, Math.max(lineSpeed, speed - 1));
            while (next > 0 && high + wayToStop(next) > end) {
                next--;
            }
            return next;
        }

        void go(int tick) {
            int step = 0;
            if (speed > 0) {
                step = speed + slip;
                place += step;
                low += speed - 1;
                high += speed + 1;
            }
            if (tick >= 0 && tick < speeds.length && tick < steps.length) {
                speeds[tick] = (byte) speed;
                steps[tick] = (byte) step;
            }
        }

        int speedIn(int tick) {
            boolean wasThere = tick > firstTick && tick < speeds.length;
            return wasThere ? speeds[tick] : NONE;
        }

        int playAgain(int now) {
            int found = firstPlace;
            for (int i = firstTick + 1; i <= now && i < steps.length; i++) {
                found += steps[i];
            }
            return found;
        }

        void openDoors(int off) {
            int barredThere = stop == null ? ALL_DOORS : stop.barred;
            doors = ALL_DOORS & ~(barred | barredThere);
            people = Math.max(people - off, 0);
        }

        void takePeople() {
            if (stop != null && hasOpenDoors()) {
                int atDoors = BOARD_A_DOOR * Integer.bitCount(doors);
                int boarding = Math.min(atDoors, Math.min(stop.waiting, ROOM - people));
                stop.waiting -= boarding;
                people += boarding;
            }
        }
    }
}
