import java.util.NoSuchElementException;

/**
 * A giant without a floor: a column of ten levels, twelve belts, and the storms, scars, probes,
 * frames and saved worlds that go with them. The promises are those of the document.
 */
public final class Bandworld {
    private static final int LEVELS = 10;
    private static final int TOP = 0;
    private static final int BOTTOM = LEVELS - 1;
    private static final int VAPOURS = 3;
    private static final int BELTS = 12;
    private static final int AROUND = 3600;
    private static final int HALF_AROUND = AROUND / 2;
    private static final int MOST_STORMS = 12;
    private static final int LEAST_SIZE = 10;
    private static final int MOST_SIZE = 400;
    private static final int MOST_SCARS = 8;
    private static final int MOST_NOTES = 60;
    private static final int MOST_PROBES = 4;
    private static final int MOST_FRAMES = 6;
    private static final int MOST_SAVES = 3;
    private static final int PLUME_LEVEL = 3;
    private static final int PLUME_WARMTH = 200;
    private static final int PLUME_SIZE = 60;
    private static final char NO_NAME = '-';

    private final World world;
    private final World[] saves;
    private final long[] saveSums;
    private int saveCount;
    private World spare;
    private final Probe[] probes;
    private int probeCount;
    private final Frame[] frames;
    private int frameCount;

    /** Creates a giant with calm belts and no storms. */
    public Bandworld() {
        world = new World();
        saves = new World[MOST_SAVES];
        saveSums = new long[MOST_SAVES];
        probes = new Probe[MOST_PROBES];
        frames = new Frame[MOST_FRAMES];
    }

    /** Sets a temperature and returns the one before. */
    public int setTemperature(int level, int temperature)
            throws IndexOutOfBoundsException, IllegalArgumentException {
        checkIndex(level, LEVELS);
        checkRange(temperature, 50, 999);
        return world.column.tellTemperature(level, temperature);
    }

    /** Returns a temperature. */
    public int getTemperature(int level) throws IndexOutOfBoundsException {
        checkIndex(level, LEVELS);
        return world.column.temperatures[level];
    }

    /** Sets how much there is of a vapour and returns how much there was. */
    public int setVapour(int level, int vapour, int amount)
            throws IndexOutOfBoundsException, IllegalArgumentException {
        checkIndex(level, LEVELS);
        checkIndex(vapour, VAPOURS);
        checkRange(amount, 0, 20000);
        return world.column.tellVapour(level, vapour, amount);
    }

    /** Returns how much there is of a vapour. */
    public int getVapour(int level, int vapour) throws IndexOutOfBoundsException {
        checkIndex(level, LEVELS);
        checkIndex(vapour, VAPOURS);
        return world.column.vapours[level][vapour];
    }

    /** Returns how much ice there is of a vapour. */
    public int getIce(int level, int vapour) throws IndexOutOfBoundsException {
        checkIndex(level, LEVELS);
        checkIndex(vapour, VAPOURS);
        return world.column.ices[level][vapour];
    }

    /** Returns in which level a vapour has the most ice. */
    public int deck(int vapour) throws IndexOutOfBoundsException, NoSuchElementException {
        checkIndex(vapour, VAPOURS);
        int level = world.column.iciestLevel(vapour);
        if (level < 0) {
            throw new NoSuchElementException("there is no ice of this vapour");
        }
        return level;
    }

    /** Sets the core and returns the one before. */
    public int setCore(int heat) throws IllegalArgumentException {
        checkRange(heat, 0, 9);
        int before = world.column.core;
        world.column.core = heat;
        return before;
    }

    /** Returns how many degrees the level 0 lost so far. */
    public int getRadiated() {
        return world.column.radiated;
    }

    /** Returns the pressure of a level. */
    public float pressure(int level) throws IndexOutOfBoundsException {
        checkIndex(level, LEVELS);
        float pressure = 0.1f;
        for (int above = 0; above < level; above++) {
            pressure = pressure * 2.0f;
        }
        return pressure;
    }

    /** Sets a turning and returns the one before. */
    public int setTurning(int belt, int turning)
            throws IndexOutOfBoundsException, IllegalArgumentException {
        checkIndex(belt, BELTS);
        checkRange(turning, -3000, 3000);
        return world.belts.tellTurning(belt, turning);
    }

    /** Returns a turning. */
    public int getTurning(int belt) throws IndexOutOfBoundsException {
        checkIndex(belt, BELTS);
        return world.belts.turnings[belt];
    }

    /** Returns the wind of a belt. */
    public int getWind(int belt) throws IndexOutOfBoundsException {
        checkIndex(belt, BELTS);
        return world.belts.windOf(belt);
    }

    /** Returns the shear of a belt. */
    public int getShear(int belt) throws IndexOutOfBoundsException {
        checkIndex(belt, BELTS);
        return world.belts.shearOf(belt);
    }

    /** Stirs turning from a belt to a neighbour and returns the turning of the neighbour then. */
    public int stir(int from, int to, int turning)
            throws IndexOutOfBoundsException, IllegalArgumentException {
        checkIndex(from, BELTS);
        checkIndex(to, BELTS);
        if (Math.abs(from - to) != 1) {
            throw new IllegalArgumentException("both belts are no neighbours");
        }
        checkRange(turning, 1, 3000);
        world.belts.turnings[from] -= turning;
        world.belts.turnings[to] += turning;
        return world.belts.turnings[to];
    }

    /** Sets the drag and returns the one before. */
    public int setDrag(int drag) throws IllegalArgumentException {
        checkRange(drag, 0, 50);
        int before = world.belts.drag;
        world.belts.drag = drag;
        return before;
    }

    /** Returns how much turning the deep got. */
    public int getDeep() {
        return world.belts.deep;
    }

    /** Adds a storm and returns its number. */
    public int addStorm(int belt, int longitude, int size)
            throws IndexOutOfBoundsException, IllegalArgumentException, IllegalStateException {
        checkIndex(belt, BELTS);
        checkLongitude(longitude);
        checkRange(size, LEAST_SIZE, MOST_SIZE);
        checkRoom(world.storms.count, MOST_STORMS);
        return world.storms.begin(belt, longitude, size);
    }

    /** Names a storm and returns the name before, '-' for none. */
    public char nameStorm(int storm, char name)
            throws IndexOutOfBoundsException, IllegalArgumentException, UnsupportedOperationException {
        checkStorm(storm);
        checkName(name);
        int bearer = world.storms.bearerOf(name);
        if (!world.storms.there[storm] || (bearer >= 0 && bearer != storm)) {
            throw new UnsupportedOperationException("the storm is gone, or another one has the name");
        }
        char before = world.storms.names[storm];
        world.storms.names[storm] = name;
        return before;
    }

    /** Returns which storm that is there has a name. */
    public int findName(char name) throws IllegalArgumentException, NoSuchElementException {
        checkName(name);
        int bearer = world.storms.bearerOf(name);
        if (bearer < 0) {
            throw new NoSuchElementException("no storm that is there has the name");
        }
        return bearer;
    }

    /** Returns the longitude of a storm. */
    public int getLongitude(int storm) throws IndexOutOfBoundsException, NoSuchElementException {
        checkStorm(storm);
        checkIsThere(storm);
        return world.storms.longitudes[storm];
    }

    /** Returns the size of a storm. */
    public int getSize(int storm) throws IndexOutOfBoundsException, NoSuchElementException {
        checkStorm(storm);
        checkIsThere(storm);
        return world.storms.sizes[storm];
    }

    /** Returns how many turns a storm was there. */
    public int getAge(int storm) throws IndexOutOfBoundsException {
        checkStorm(storm);
        return world.storms.ages[storm];
    }

    /** Returns whether a storm is there. */
    public boolean isThere(int storm) throws IndexOutOfBoundsException {
        checkStorm(storm);
        return world.storms.there[storm];
    }

    /** Returns the storm that is there in which a storm lives on. */
    public int livesIn(int storm) throws IndexOutOfBoundsException, NoSuchElementException {
        checkStorm(storm);
        int heir = world.storms.heirOf(storm);
        if (heir < 0) {
            throw new NoSuchElementException("the storm lives on in none that is there");
        }
        return heir;
    }

    /** Lets a plume burst and returns the number of its storm. */
    public int burst(int belt, int longitude) throws IndexOutOfBoundsException,
            IllegalArgumentException, UnsupportedOperationException, IllegalStateException {
        checkIndex(belt, BELTS);
        checkLongitude(longitude);
        if (!world.column.isWarmForPlume()) {
            throw new UnsupportedOperationException("the column is not warm enough");
        }
        checkRoom(world.storms.count, MOST_STORMS);
        world.column.liftPlume();
        int storm = world.storms.begin(belt, longitude, PLUME_SIZE);
        world.notes.write('p', storm);
        return storm;
    }

    /** Makes a scar and returns its number. */
    public int strike(int belt, int longitude, int width)
            throws IndexOutOfBoundsException, IllegalArgumentException, IllegalStateException {
        checkIndex(belt, BELTS);
        checkLongitude(longitude);
        checkRange(width, 1, 100);
        checkRoom(world.scars.count, MOST_SCARS);
        int scar = world.scars.begin(belt, width);
        world.notes.write('k', scar);
        return scar;
    }

    /** Returns the width of a scar. */
    public int getWidth(int scar) throws IndexOutOfBoundsException {
        checkIndex(scar, Math.min(world.scars.count, MOST_SCARS));
        return world.scars.widths[scar];
    }

    /** Returns how old a scar is by its width. */
    public int scarTurns(int scar) throws IndexOutOfBoundsException {
        checkIndex(scar, Math.min(world.scars.count, MOST_SCARS));
        return world.scars.turnsByWidth(scar, world.belts);
    }

    /** Lets turns go by and returns how many went by in all. */
    public int turn(int turns) throws IllegalArgumentException {
        checkRange(turns, 1, 200);
        for (int gone = 0; gone < turns; gone++) {
            world.goOn();
        }
        return world.turns;
    }

    /** Drops a probe and returns its number. */
    public int dropProbe(int chute, int relay, int records, boolean isOldest)
            throws IllegalArgumentException, IllegalStateException {
        checkRange(chute, 1, BOTTOM);
        checkRange(relay, 1, 60);
        checkRange(records, 1, 3);
        checkRoom(probeCount, MOST_PROBES);
        int probe = probeCount;
        probes[probe] = new Probe(chute, relay, records, isOldest);
        probeCount++;
        return probe;
    }

    /** Lets a tick go by for a probe and returns its level then, -1 if it is dead. */
    public int tick(int probe) throws IndexOutOfBoundsException, UnsupportedOperationException {
        Probe falling = probeAt(probe);
        if (falling.dead) {
            throw new UnsupportedOperationException("the probe is dead");
        }
        falling.goOn(world.column);
        return falling.dead ? -1 : falling.level;
    }

    /** Returns how many records a probe sent. */
    public int sent(int probe) throws IndexOutOfBoundsException {
        return probeAt(probe).sentCount;
    }

    /** Returns something of a record as it was sent: 'l' the level, 't' the temperature, 'i' the ice. */
    public int sentAt(int probe, int index, char what)
            throws IndexOutOfBoundsException, IllegalArgumentException, NoSuchElementException {
        Probe sender = probeAt(probe);
        if (what != 'l' && what != 't' && what != 'i') {
            throw new IllegalArgumentException("a record has no such thing");
        }
        if (index < 0 || index >= sender.sentCount || index >= Probe.MOST_TICKS) {
            throw new NoSuchElementException("there is no such record");
        }
        int record = sender.sentRecords[index];
        if (record < 0 || record >= Probe.MOST_TICKS) {
            throw new NoSuchElementException("there is no such record");
        }
        if (what == 'l') {
            return sender.levels[record];
        }
        return what == 't' ? sender.temperatures[record] : sender.ices[record];
    }

    /** Returns how many records a probe lost, that are neither sent nor kept. */
    public int lost(int probe) throws IndexOutOfBoundsException {
        return probeAt(probe).lostCount;
    }

    /** Takes a frame and returns its number. */
    public int frame(int longitude) throws IllegalArgumentException, IllegalStateException {
        checkLongitude(longitude);
        checkRoom(frameCount, MOST_FRAMES);
        int number = frameCount;
        Frame taken = new Frame(world.turns);
        taken.see(world.storms, longitude);
        frames[number] = taken;
        frameCount++;
        return number;
    }

    /** Returns how many storms a frame has. */
    public int countSeen(int frame) throws IndexOutOfBoundsException {
        return frameAt(frame).count;
    }

    /** Returns at which longitude a frame has a name. */
    public int placeIn(int frame, char name)
            throws IndexOutOfBoundsException, IllegalArgumentException, NoSuchElementException {
        Frame taken = frameAt(frame);
        checkName(name);
        int place = taken.placeOf(name);
        if (place < 0) {
            throw new NoSuchElementException("the frame does not have the name");
        }
        return place;
    }

    /** Returns the drift of a name between two frames. */
    public float drift(char name, int frame, int other)
            throws IndexOutOfBoundsException, IllegalArgumentException, NoSuchElementException {
        Frame one = frameAt(frame);
        Frame two = frameAt(other);
        checkName(name);
        // A world can be loaded between two frames, so their turns tell which is earlier, not their numbers.
        Frame earlier = one.takenAt <= two.takenAt ? one : two;
        Frame later = one.takenAt <= two.takenAt ? two : one;
        int from = earlier.placeOf(name);
        int to = later.placeOf(name);
        int turnsBetween = later.takenAt - earlier.takenAt;
        if (from < 0 || to < 0 || turnsBetween < 1) {
            throw new NoSuchElementException("a frame does not have the name, or no turn is between");
        }
        int way = Math.floorMod(to - from + HALF_AROUND, AROUND) - HALF_AROUND;
        return (float) way / (float) turnsBetween;
    }

    /** Saves the world and returns the number of the save. */
    public int save() throws IllegalStateException {
        checkRoom(saveCount, MOST_SAVES);
        int number = saveCount;
        World kept = new World();
        kept.copyFrom(world);
        saves[number] = kept;
        saveSums[number] = world.sumUp();
        saveCount++;
        return number;
    }

    /** Loads a world and returns its sum. */
    public long load(int save) throws IndexOutOfBoundsException {
        checkIndex(save, Math.min(saveCount, MOST_SAVES));
        World kept = saves[save];
        if (kept == null) {
            throw new IndexOutOfBoundsException("there is no such save");
        }
        world.copyFrom(kept);
        return world.sumUp();
    }

    /** Returns how much is noted. */
    public int happenings() {
        return world.notes.count;
    }

    /** Returns what happened. */
    public char happening(int index) throws NoSuchElementException {
        checkNote(index);
        return world.notes.letters[index];
    }

    /** Returns to which storm or scar it happened. */
    public int happenedTo(int index) throws NoSuchElementException {
        checkNote(index);
        return world.notes.numbers[index];
    }

    /** Returns the sum of the world. */
    public long checksum() {
        return world.sumUp();
    }

    /** Returns the share of storms that are there. */
    public float thereShare() throws ArithmeticException {
        int all = world.storms.count;
        if (all < 1) {
            throw new ArithmeticException("there were no storms");
        }
        return (float) world.storms.countThere() / (float) all;
    }

    /** Returns the mean wind of belts. */
    public double meanWind() {
        int sum = 0;
        for (int belt = 0; belt < BELTS; belt++) {
            sum += world.belts.windOf(belt);
        }
        return (double) sum / 12.0;
    }

    /** Checks the world. */
    public boolean isSound() {
        return world.column.isBalanced() && world.belts.isBalanced()
                && world.storms.areNamesSingle() && world.storms.areSizesRight()
                && areSavesTrue();
    }

    private boolean areSavesTrue() {
        for (int i = 0; i < saveCount && i < MOST_SAVES; i++) {
            World kept = saves[i];
            if (kept == null || kept.sumUp() != saveSums[i]) {
                return false;
            }
        }
        // The present world goes through the copying of save and load as well, in a row used again.
        if (spare == null) {
            spare = new World();
        }
        spare.copyFrom(world);
        return spare.sumUp() == world.sumUp();
    }

    private Probe probeAt(int probe) {
        checkIndex(probe, Math.min(probeCount, MOST_PROBES));
        Probe found = probes[probe];
        if (found == null) {
            throw new IndexOutOfBoundsException("there is no such probe");
        }
        return found;
    }

    private Frame frameAt(int frame) {
        checkIndex(frame, Math.min(frameCount, MOST_FRAMES));
        Frame found = frames[frame];
        if (found == null) {
            throw new IndexOutOfBoundsException("there is no such frame");
        }
        return found;
    }

    private void checkStorm(int storm) {
        checkIndex(storm, Math.min(world.storms.count, MOST_STORMS));
    }

    private void checkIsThere(int storm) {
        if (!world.storms.there[storm]) {
            throw new NoSuchElementException("the storm is gone");
        }
    }

    private void checkNote(int index) {
        if (index < 0 || index >= world.notes.count || index >= MOST_NOTES) {
            throw new NoSuchElementException("there is no such happening");
        }
    }

    private static void checkIndex(int index, int count) {
        if (index < 0 || index >= count) {
            throw new IndexOutOfBoundsException("there is no such number");
        }
    }

    private static void checkRange(int number, int least, int most) {
        if (number < least || number > most) {
            throw new IllegalArgumentException("a number is out of range");
        }
    }

    private static void checkLongitude(int longitude) {
        checkRange(longitude, 0, AROUND - 1);
    }

    private static void checkName(char name) {
        if (name < 'A' || name > 'Z') {
            throw new IllegalArgumentException("there is no such name");
        }
    }

    private static void checkRoom(int count, int most) {
        if (count >= most) {
            throw new IllegalStateException("there is no room for another one");
        }
    }

    private static int distance(int longitude, int other) {
        int apart = Math.abs(longitude - other);
        return Math.min(apart, AROUND - apart);
    }

    /** All that a save keeps: everything but frames, probes and saves. */
    private static final class World {
        final Column column = new Column();
        final Belts belts = new Belts();
        final Storms storms = new Storms();
        final Scars scars = new Scars();
        final Notes notes = new Notes();
        int turns;

        void goOn() {
            column.goOn();
            belts.dragDown();
            storms.goOn(belts, notes);
            scars.widen(belts);
            turns++;
        }

        long sumUp() {
            long sum = column.addTo(7);
            sum = belts.addTo(sum);
            sum = storms.addTo(sum);
            return 31 * sum + turns;
        }

        void copyFrom(World other) {
            column.copyFrom(other.column);
            belts.copyFrom(other.belts);
            storms.copyFrom(other.storms);
            scars.copyFrom(other.scars);
            notes.copyFrom(other.notes);
            turns = other.turns;
        }
    }

    private static final class Column {
        static final int[] HELD_BY_DEGREE = {40, 60, 90};
        static final int[] FREEZING = {120, 180, 240};
        static final int STABLE_STEP = 25;

        final int[] temperatures = new int[LEVELS];
        final int[][] vapours = new int[LEVELS][VAPOURS];
        final int[][] ices = new int[LEVELS][VAPOURS];
        int core = 2;
        int radiated;
        int toldDegrees;
        int coreDegrees;
        int toldVapours;

        Column() {
            for (int level = 0; level < LEVELS; level++) {
                temperatures[level] = 100 + 20 * level;
                toldDegrees += temperatures[level];
            }
        }

        int tellTemperature(int level, int temperature) {
            int before = temperatures[level];
            temperatures[level] = temperature;
            toldDegrees += temperature - before;
            return before;
        }

        int tellVapour(int level, int vapour, int amount) {
            int before = vapours[level][vapour];
            vapours[level][vapour] = amount;
            toldVapours += amount - before;
            return before;
        }

        int iciestLevel(int vapour) {
            int iciest = -1;
            int most = 0;
            for (int level = 0; level < LEVELS; level++) {
                if (ices[level][vapour] > most) {
                    most = ices[level][vapour];
                    iciest = level;
                }
            }
            return iciest;
        }

        void goOn() {
            temperatures[BOTTOM] += core;
            coreDegrees += core;
            for (int level = 0; level < LEVELS; level++) {
                freezeOrThaw(level);
            }
            for (int level = BOTTOM - 1; level >= 0; level--) {
                dropIce(level);
            }
            for (int level = BOTTOM - 1; level >= 0; level--) {
                riseInto(level);
            }
            int loss = temperatures[TOP] / 100;
            temperatures[TOP] -= loss;
            radiated += loss;
        }

        private void freezeOrThaw(int level) {
            for (int vapour = 0; vapour < VAPOURS; vapour++) {
                int warmth = Math.max(0, temperatures[level] - FREEZING[vapour]);
                int held = HELD_BY_DEGREE[vapour] * warmth;
                int frozen = vapours[level][vapour] - held;
                if (frozen < 0) {
                    frozen = -Math.min(-frozen, ices[level][vapour]);
                }
                vapours[level][vapour] -= frozen;
                ices[level][vapour] += frozen;
            }
        }

        private void dropIce(int level) {
            for (int vapour = 0; vapour < VAPOURS; vapour++) {
                int falling = (ices[level][vapour] + 1) / 2;
                ices[level][vapour] -= falling;
                ices[level + 1][vapour] += falling;
            }
        }

        private void riseInto(int level) {
            int below = level + 1;
            int excess = temperatures[below] - temperatures[level] - STABLE_STEP;
            if (excess <= 0 || excess <= weightOf(below) - weightOf(level)) {
                return;
            }
            int degrees = (excess + 1) / 2;
            temperatures[below] -= degrees;
            temperatures[level] += degrees;
            for (int vapour = 0; vapour < VAPOURS; vapour++) {
                int rising = vapours[below][vapour] / 10;
                vapours[below][vapour] -= rising;
                vapours[level][vapour] += rising;
            }
        }

        private int weightOf(int level) {
            return amountIn(level) / 1000;
        }

        private int amountIn(int level) {
            int amount = iceIn(level);
            for (int vapour = 0; vapour < VAPOURS; vapour++) {
                amount += vapours[level][vapour];
            }
            return amount;
        }

        int iceIn(int level) {
            int amount = 0;
            for (int vapour = 0; vapour < VAPOURS; vapour++) {
                amount += ices[level][vapour];
            }
            return amount;
        }

        boolean isWarmForPlume() {
            return temperatures[BOTTOM] - temperatures[TOP] >= PLUME_WARMTH;
        }

        void liftPlume() {
            for (int vapour = 0; vapour < VAPOURS; vapour++) {
                int rising = vapours[BOTTOM][vapour] / 2;
                vapours[BOTTOM][vapour] -= rising;
                vapours[PLUME_LEVEL][vapour] += rising;
            }
        }

        boolean isBalanced() {
            int degrees = 0;
            int amount = 0;
            for (int level = 0; level < LEVELS; level++) {
                degrees += temperatures[level];
                amount += amountIn(level);
            }
            return degrees == toldDegrees - radiated + coreDegrees && amount == toldVapours;
        }

        long addTo(long start) {
            long sum = start;
            for (int level = 0; level < LEVELS; level++) {
                sum = 31 * sum + temperatures[level];
                sum = 31 * sum + amountIn(level);
            }
            return sum;
        }

        void copyFrom(Column other) {
            for (int level = 0; level < LEVELS; level++) {
                temperatures[level] = other.temperatures[level];
                for (int vapour = 0; vapour < VAPOURS; vapour++) {
                    vapours[level][vapour] = other.vapours[level][vapour];
                    ices[level][vapour] = other.ices[level][vapour];
                }
            }
            core = other.core;
            radiated = other.radiated;
            toldDegrees = other.toldDegrees;
            coreDegrees = other.coreDegrees;
            toldVapours = other.toldVapours;
        }
    }

    private static final class Belts {
        static final int[] WIDTHS = {2, 4, 6, 8, 9, 10, 10, 9, 8, 6, 4, 2};

        final int[] turnings = new int[BELTS];
        int drag;
        int deep;
        int toldTurning;

        int tellTurning(int belt, int turning) {
            int before = turnings[belt];
            turnings[belt] = turning;
            toldTurning += turning - before;
            return before;
        }

        int windOf(int belt) {
            int width = belt >= 0 && belt < BELTS ? WIDTHS[belt] : 0;
            return width < 1 ? 0 : turnings[belt] / width;
        }

        int shearOf(int belt) {
            int north = Math.max(belt - 1, 0);
            int south = Math.min(belt + 1, BELTS - 1);
            return Math.abs(windOf(north) - windOf(south));
        }

        void dragDown() {
            if (drag < 1) {
                return;
            }
            for (int belt = 0; belt < BELTS; belt++) {
                int loss = turnings[belt] / drag;
                turnings[belt] -= loss;
                deep += loss;
            }
        }

        boolean isBalanced() {
            int sum = deep;
            for (int belt = 0; belt < BELTS; belt++) {
                sum += turnings[belt];
            }
            return sum == toldTurning;
        }

        long addTo(long start) {
            long sum = start;
            for (int belt = 0; belt < BELTS; belt++) {
                sum = 31 * sum + turnings[belt];
            }
            return sum;
        }

        void copyFrom(Belts other) {
            for (int belt = 0; belt < BELTS; belt++) {
                turnings[belt] = other.turnings[belt];
            }
            drag = other.drag;
            deep = other.deep;
            toldTurning = other.toldTurning;
        }
    }

    private static final class Storms {
        static final int SPLIT_ABOVE = 300;
        static final int SHEAR_ABOVE = 100;

        int count;
        final int[] belts = new int[MOST_STORMS];
        final int[] longitudes = new int[MOST_STORMS];
        final int[] sizes = new int[MOST_STORMS];
        final int[] ages = new int[MOST_STORMS];
        final char[] names = new char[MOST_STORMS];
        final boolean[] there = new boolean[MOST_STORMS];
        final int[] heirs = new int[MOST_STORMS];

        int begin(int belt, int longitude, int size) {
            int storm = count;
            if (storm < 0 || storm >= MOST_STORMS) {
                return -1;
            }
            belts[storm] = belt;
            longitudes[storm] = longitude;
            sizes[storm] = size;
            ages[storm] = 0;
            names[storm] = NO_NAME;
            there[storm] = true;
            heirs[storm] = -1;
            count++;
            return storm;
        }

        int bearerOf(char name) {
            for (int storm = 0; storm < count && storm < MOST_STORMS; storm++) {
                if (there[storm] && names[storm] == name) {
                    return storm;
                }
            }
            return -1;
        }

        int heirOf(int storm) {
            int heir = storm;
            for (int step = 0; step < MOST_STORMS; step++) {
                if (heir < 0 || heir >= MOST_STORMS) {
                    return -1;
                }
                if (there[heir]) {
                    return heir;
                }
                heir = heirs[heir];
            }
            return -1;
        }

        int countThere() {
            int sum = 0;
            for (int storm = 0; storm < count && storm < MOST_STORMS; storm++) {
                sum += there[storm] ? 1 : 0;
            }
            return sum;
        }

        void goOn(Belts blowing, Notes notes) {
            blow(blowing);
            meet(notes);
            tear(blowing, notes);
            split(notes);
        }

        private void blow(Belts blowing) {
            for (int storm = 0; storm < count && storm < MOST_STORMS; storm++) {
                if (there[storm]) {
                    int farther = longitudes[storm] + blowing.windOf(belts[storm]);
                    longitudes[storm] = Math.floorMod(farther, AROUND);
                    ages[storm]++;
                }
            }
        }

        private void meet(Notes notes) {
            for (int low = 0; low < count && low < MOST_STORMS; low++) {
                for (int high = low + 1; high < count && high < MOST_STORMS; high++) {
                    if (doMeet(low, high)) {
                        merge(low, high, notes);
                    }
                }
            }
        }

        private boolean doMeet(int low, int high) {
            return there[low] && there[high] && belts[low] == belts[high]
                    && distance(longitudes[low], longitudes[high]) < (sizes[low] + sizes[high]) / 2;
        }

        private void merge(int low, int high, Notes notes) {
            int winner = isGreater(high, low) ? high : low;
            int loser = winner == low ? high : low;
            sizes[winner] = mergedSize(sizes[winner], sizes[loser]);
            if (names[winner] == NO_NAME) {
                names[winner] = names[loser];
            }
            there[loser] = false;
            heirs[loser] = winner;
            notes.write('m', winner);
        }

        private boolean isGreater(int storm, int other) {
            if (sizes[storm] != sizes[other]) {
                return sizes[storm] > sizes[other];
            }
            return ages[storm] > ages[other];
        }

        private static int mergedSize(int greater, int lesser) {
            int squares = greater * greater + lesser * lesser;
            int size = greater;
            while (size < MOST_SIZE && (size + 1) * (size + 1) <= squares) {
                size++;
            }
            return size;
        }

        private void tear(Belts blowing, Notes notes) {
            for (int storm = 0; storm < count && storm < MOST_STORMS; storm++) {
                if (there[storm] && blowing.shearOf(belts[storm]) > SHEAR_ABOVE) {
                    sizes[storm] -= Math.max(1, sizes[storm] / 10);
                    if (sizes[storm] < LEAST_SIZE) {
                        there[storm] = false;
                        notes.write('d', storm);
                    }
                }
            }
        }

        private void split(Notes notes) {
            for (int storm = 0; storm < count && storm < MOST_STORMS; storm++) {
                int size = sizes[storm];
                if (there[storm] && size > SPLIT_ABOVE && count < MOST_STORMS) {
                    int third = size / 3;
                    int farther = Math.floorMod(longitudes[storm] + size, AROUND);
                    int part = begin(belts[storm], farther, third);
                    sizes[storm] -= third;
                    notes.write('s', part);
                }
            }
        }

        boolean areNamesSingle() {
            for (int storm = 0; storm < count && storm < MOST_STORMS; storm++) {
                boolean isNamed = there[storm] && names[storm] != NO_NAME;
                if (isNamed && bearerOf(names[storm]) != storm) {
                    return false;
                }
            }
            return true;
        }

        boolean areSizesRight() {
            for (int storm = 0; storm < count && storm < MOST_STORMS; storm++) {
                boolean isRight = sizes[storm] >= LEAST_SIZE && sizes[storm] <= MOST_SIZE;
                if (there[storm] && !isRight) {
                    return false;
                }
            }
            return true;
        }

        long addTo(long start) {
            long sum = start;
            for (int storm = 0; storm < count && storm < MOST_STORMS; storm++) {
                sum = 31 * sum + (there[storm] ? sizes[storm] : 0);
                sum = 31 * sum + longitudes[storm];
            }
            return sum;
        }

        void copyFrom(Storms other) {
            count = other.count;
            for (int storm = 0; storm < MOST_STORMS; storm++) {
                belts[storm] = other.belts[storm];
                longitudes[storm] = other.longitudes[storm];
                sizes[storm] = other.sizes[storm];
                ages[storm] = other.ages[storm];
                names[storm] = other.names[storm];
                there[storm] = other.there[storm];
                heirs[storm] = other.heirs[storm];
            }
        }
    }

    private static final class Scars {
        int count;
        final int[] belts = new int[MOST_SCARS];
        final int[] widths = new int[MOST_SCARS];
        final int[] firstWidths = new int[MOST_SCARS];

        int begin(int belt, int width) {
            int scar = count;
            if (scar < 0 || scar >= MOST_SCARS) {
                return -1;
            }
            belts[scar] = belt;
            widths[scar] = width;
            firstWidths[scar] = width;
            count++;
            return scar;
        }

        void widen(Belts blowing) {
            for (int scar = 0; scar < count && scar < MOST_SCARS; scar++) {
                widths[scar] += growth(belts[scar], blowing);
            }
        }

        int turnsByWidth(int scar, Belts blowing) {
            int growth = growth(belts[scar], blowing);
            return growth < 1 ? 0 : (widths[scar] - firstWidths[scar]) / growth;
        }

        private static int growth(int belt, Belts blowing) {
            return 1 + blowing.shearOf(belt) / 20;
        }

        void copyFrom(Scars other) {
            count = other.count;
            for (int scar = 0; scar < MOST_SCARS; scar++) {
                belts[scar] = other.belts[scar];
                widths[scar] = other.widths[scar];
                firstWidths[scar] = other.firstWidths[scar];
            }
        }
    }

    private static final class Notes {
        int count;
        final char[] letters = new char[MOST_NOTES];
        final int[] numbers = new int[MOST_NOTES];

        void write(char letter, int number) {
            if (count < 0 || count >= MOST_NOTES) {
                return;
            }
            letters[count] = letter;
            numbers[count] = number;
            count++;
        }

        void copyFrom(Notes other) {
            count = other.count;
            for (int i = 0; i < MOST_NOTES; i++) {
                letters[i] = other.letters[i];
                numbers[i] = other.numbers[i];
            }
        }
    }

    private static final class Probe {
        // The slowest probe needs two ticks for each level above the bottom, and one tick there.
        static final int MOST_TICKS = 2 * BOTTOM + 1;
        static final int MOST_KEPT = 6;

        final int chute;
        final int relay;
        final int records;
        final boolean isOldest;
        int level;
        int ticks;
        boolean dead;
        final int[] levels = new int[MOST_TICKS];
        final int[] temperatures = new int[MOST_TICKS];
        final int[] ices = new int[MOST_TICKS];
        final int[] kept = new int[MOST_KEPT];
        int keptCount;
        final int[] sentRecords = new int[MOST_TICKS];
        int sentCount;
        int lostCount;

        Probe(int chute, int relay, int records, boolean isOldest) {
            this.chute = chute;
            this.relay = relay;
            this.records = records;
            this.isOldest = isOldest;
        }

        void goOn(Column column) {
            // No probe lives so long or sinks so deep; the rows are kept safe all the same.
            if (ticks < 0 || ticks >= MOST_TICKS || level < 0 || level >= LEVELS) {
                dead = true;
                return;
            }
            levels[ticks] = level;
            temperatures[ticks] = column.temperatures[level];
            ices[ticks] = column.iceIn(level);
            keep(ticks);
            ticks++;
            if (ticks <= relay) {
                transmit();
            }
            fall(column.temperatures[level]);
        }

        private void keep(int record) {
            if (keptCount >= MOST_KEPT) {
                takeKept(0);
                lostCount++;
            }
            if (keptCount >= 0 && keptCount < MOST_KEPT) {
                kept[keptCount] = record;
                keptCount++;
            }
        }

        private void transmit() {
            for (int i = 0; i < records && keptCount > 0; i++) {
                int record = takeKept(isOldest ? 0 : keptCount - 1);
                if (sentCount >= 0 && sentCount < MOST_TICKS) {
                    sentRecords[sentCount] = record;
                    sentCount++;
                }
            }
        }

        private int takeKept(int place) {
            if (place < 0 || place >= MOST_KEPT || keptCount > MOST_KEPT) {
                return -1;
            }
            int record = kept[place];
            for (int i = place + 1; i < keptCount && i < MOST_KEPT; i++) {
                kept[i - 1] = kept[i];
            }
            keptCount--;
            return record;
        }

        private void fall(int temperature) {
            if (level >= BOTTOM || temperature > 600) {
                dead = true;
            } else if (level >= chute || ticks % 2 == 0) {
                level++;
            }
        }
    }

    private static final class Frame {
        final int takenAt;
        int count;
        final char[] names = new char[MOST_STORMS];
        final int[] places = new int[MOST_STORMS];

        Frame(int takenAt) {
            this.takenAt = takenAt;
        }

        void see(Storms storms, int longitude) {
            for (int storm = 0; storm < storms.count && storm < MOST_STORMS; storm++) {
                int place = storms.longitudes[storm];
                boolean isSeen = storms.there[storm] && distance(place, longitude) <= 900;
                if (isSeen && count < MOST_STORMS) {
                    names[count] = storms.names[storm];
                    places[count] = place;
                    count++;
                }
            }
        }

        int placeOf(char name) {
            for (int i = 0; i < count && i < MOST_STORMS; i++) {
                if (names[i] == name) {
                    return places[i];
                }
            }
            return -1;
        }
    }
}
