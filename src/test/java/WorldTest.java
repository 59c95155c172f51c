/** Promises 40 to 48: saves, what is noted, sums, shares, means and soundness. */
public final class WorldTest {
    public static void main(String[] args) {
        saving();
        loadingBringsAllBack();
        whatIsNotLoaded();
        goingOn();
        twoWorlds();
        notes();
        sums();
        shares();
        means();
        soundness();
        Check.end();
    }

    private static void saving() {
        Bandworld x = new Bandworld();
        Check.index("no save yet", x, () -> x.load(0));
        Check.due("save 0", x.save(), 0);
        Check.due("save 1", x.save(), 1);
        Check.index("load(2)", x, () -> x.load(2));
        Check.due("save 2", x.save(), 2);
        Check.state("a 4th", x, () -> x.save());
        Check.index("load(-1)", x, () -> x.load(-1));
        Check.index("load(3)", x, () -> x.load(3));
        Check.index("load of the most", x, () -> x.load(Integer.MAX_VALUE));
        Check.due("the sum of the world", x.load(1), x.checksum());
        x.turn(1);
        Check.state("saves stay", x, () -> x.save());
    }

    private static void busy(Bandworld x) {
        x.setTemperature(9, 500);
        x.setVapour(9, 2, 20000);
        x.setVapour(4, 0, 9999);
        x.setCore(7);
        x.setTurning(4, 1000);
        x.setTurning(5, -700);
        x.setDrag(9);
        x.addStorm(5, 10, 400);
        x.addStorm(5, 20, 390);
        x.addStorm(2, 3000, 50);
        x.nameStorm(0, 'A');
        x.nameStorm(2, 'B');
        x.burst(9, 77);
        x.strike(5, 1, 20);
        x.turn(2);
    }

    private static void busyAndSaved(Bandworld x) {
        busy(x);
        x.save();
    }

    private static void disturb(Bandworld x) {
        x.turn(3);
        x.setTemperature(3, 200);
        x.setVapour(2, 1, 500);
        x.setCore(1);
        x.setDrag(3);
        x.setTurning(8, 3000);
        x.stir(4, 5, 1000);
        x.addStorm(9, 90, 200);
        x.nameStorm(2, 'C');
        x.strike(2, 2, 2);
        x.turn(30);
    }

    private static void loadingBringsAllBack() {
        Bandworld x = new Bandworld();
        busyAndSaved(x);
        long sum = x.checksum();
        disturb(x);
        Check.no("all is otherwise", x.checksum() == sum);
        Check.due("its sum", x.load(0), sum);
        Check.due("the core too", x.setCore(7), 7);
        Check.due("the drag too", x.setDrag(9), 9);
        Check.yes("sound", x.isSound());

        String saved = Look.at(WorldTest::busyAndSaved);
        Look.Story loaded = y -> {
            busyAndSaved(y);
            disturb(y);
            y.load(0);
        };
        Check.due("all is as before, and goes on so", Look.at(loaded), saved);
        Look.Story loadedTwice = y -> {
            loaded.tell(y);
            disturb(y);
            y.load(0);
        };
        Check.due("a second time", Look.at(loadedTwice), saved);
    }

    private static void whatIsNotLoaded() {
        Bandworld x = new Bandworld();
        x.addStorm(5, 0, 10);
        x.nameStorm(0, 'A');
        x.save();
        x.frame(0);
        x.dropProbe(1, 60, 1, true);
        x.tick(0);
        x.tick(0);
        x.turn(1);
        x.save();
        x.load(0);
        Check.due("frames stay", x.placeIn(0, 'A'), 0);
        Check.due("probes stay", x.sent(0), 2);
        Check.due("a probe goes on", x.tick(0), 2);
        Check.due("saves stay", x.load(1), x.checksum());
        Check.due("the turn of the save", x.turn(1), 2);
    }

    private static void goingOn() {
        Bandworld x = new Bandworld();
        x.save();
        x.addStorm(5, 0, 10);
        x.strike(5, 0, 10);
        x.turn(5);
        x.save();
        x.load(0);
        Check.index("storms of later are not there", x, () -> x.isThere(0));
        Check.index("nor scars", x, () -> x.getWidth(0));
        Check.due("nor notes", x.happenings(), 0);
        Check.due("nor turns", x.turn(1), 1);
        Check.due("numbers begin again", x.addStorm(6, 5, 20), 0);
        Check.due("of scars too", x.strike(6, 5, 20), 0);
        x.load(1);
        Check.due("the other world", x.getLongitude(0), 0);
        Check.due("its scar", x.getWidth(0), 15);
        Check.due("its turns", x.turn(1), 6);
        Check.yes("sound", x.isSound());
    }

    /** Nothing of a world may be left behind in another one that has the same numbers. */
    private static void twoWorlds() {
        Bandworld x = new Bandworld();
        threeSaves(x);
        x.load(1);
        Check.due("the first lives in itself", x.livesIn(1), 0);
        Check.due("3 turns by 1", x.scarTurns(0), 3);
        Check.due("at first a strike", x.happening(0), 'k');
        Check.due("then a merger", x.happening(1), 'm');
        Check.due("by 0", x.happenedTo(1), 0);
        Check.due("named by it", x.findName('A'), 0);
        x.turn(1);
        Check.due("in its belt", x.getLongitude(0), 28);
        Check.due("its scar", x.getWidth(0), 14);
        x.load(2);
        Check.due("it lives in 1", x.livesIn(0), 1);
        Check.due("by 1", x.happenedTo(1), 1);
        x.turn(1);
        Check.due("in its own belt", x.getLongitude(1), 3110);
        // Its shear is 375: by 19 in each of 6 turns.
        Check.due("the width of its scar", x.getWidth(0), 204);
        Check.yes("sound", x.isSound());

        Look.Story back = y -> {
            threeSaves(y);
            y.load(1);
            y.turn(1);
            y.load(2);
        };
        Check.due("the second as it was", Look.at(back), Look.at(WorldTest::threeSaves));
    }

    /** A new world, one of the belt 5 and one of the belt 2. */
    private static void threeSaves(Bandworld x) {
        x.save();
        x.addStorm(5, 0, 50);
        x.addStorm(5, 5, 40);
        x.strike(5, 0, 10);
        x.setTurning(5, 70);
        x.nameStorm(1, 'A');
        x.turn(3);
        x.save();
        x.load(0);
        x.addStorm(2, 100, 40);
        x.addStorm(2, 110, 50);
        x.strike(2, 0, 90);
        x.setTurning(2, -600);
        x.setTurning(3, 3000);
        x.nameStorm(0, 'B');
        x.turn(5);
        x.save();
    }

    private static void notes() {
        Bandworld x = new Bandworld();
        Check.none("nothing yet", x, () -> x.happening(0));
        Check.none("nothing yet, to whom", x, () -> x.happenedTo(0));
        x.strike(0, 0, 5);
        x.setTemperature(9, 999);
        x.burst(1, 0);
        x.addStorm(5, 10, 400);
        x.addStorm(5, 20, 390);
        x.addStorm(8, 0, 10);
        x.setTurning(9, 3000);
        x.turn(1);
        char[] letters = {'k', 'p', 'm', 'd', 's'};
        int[] numbers = {0, 0, 1, 3, 4};
        Check.due("happenings()", x.happenings(), 5);
        for (int i = 0; i < 5; i++) {
            Check.due("happening " + i, x.happening(i), letters[i]);
            Check.due("happenedTo " + i, x.happenedTo(i), numbers[i]);
        }
        for (int bad : new int[] {-1, 5, 60, Integer.MIN_VALUE, Integer.MAX_VALUE}) {
            Check.none("happening", x, () -> x.happening(bad));
            Check.none("happenedTo", x, () -> x.happenedTo(bad));
        }
    }

    private static void sums() {
        Bandworld x = new Bandworld();
        long sum = 7;
        for (int level = 0; level < 10; level++) {
            sum = sum * 31 + 100 + 20 * level;
            sum = sum * 31;
        }
        for (int belt = 0; belt < 12; belt++) {
            sum = sum * 31;
        }
        Check.due("of a new one", x.checksum(), sum * 31);
        x.addStorm(5, 70, 20);
        x.addStorm(5, 75, 30);
        Check.due("with storms", x.checksum(), ((((sum * 31 + 20) * 31 + 70) * 31 + 30) * 31 + 75) * 31);
        x.setCore(0);
        x.setTemperature(0, 99);
        x.setTurning(11, -5);
        x.setVapour(9, 0, 3);
        x.setVapour(9, 1, 4);
        x.turn(1);
        sum = 7;
        for (int level = 0; level < 10; level++) {
            sum = sum * 31 + (level == 0 ? 99 : 100 + 20 * level);
            sum = sum * 31 + (level == 9 ? 7 : 0);
        }
        for (int belt = 0; belt < 12; belt++) {
            sum = sum * 31 + (belt == 11 ? -5 : 0);
        }
        sum = (sum * 31 + 0) * 31 + 70;
        sum = (sum * 31 + 36) * 31 + 75;
        Check.due("with one that is gone, and a turn", x.checksum(), sum * 31 + 1);
        x.frame(0);
        x.save();
        x.dropProbe(1, 1, 1, true);
        x.strike(0, 0, 9);
        Check.due("nothing else counts", x.checksum(), sum * 31 + 1);
    }

    private static void shares() {
        Bandworld x = new Bandworld();
        Check.refused("there were none", x, ArithmeticException.class, () -> x.thereShare());
        x.addStorm(5, 0, 20);
        Check.due("one of one", x.thereShare(), 1.0f);
        x.addStorm(5, 0, 20);
        x.addStorm(5, 0, 20);
        x.turn(1);
        Check.due("one of three", x.thereShare(), 1.0f / 3.0f);
        x.setTurning(4, 3000);
        x.turn(60);
        Check.due("none of three", x.thereShare(), 0.0f);
    }

    private static void means() {
        Bandworld x = new Bandworld();
        Check.due("calm", x.meanWind(), 0.0);
        x.setTurning(0, 3);
        Check.due("1 in all", x.meanWind(), 1.0 / 12.0);
        x.setTurning(5, -1009);
        Check.due("-99 in all", x.meanWind(), -99.0 / 12.0);
        x.setTurning(11, 3000);
        Check.due("1401 in all", x.meanWind(), 1401.0 / 12.0);
    }

    private static void soundness() {
        Bandworld x = new Bandworld();
        busy(x);
        for (int i = 0; i < 10; i++) {
            Check.yes("busy " + i, x.isSound());
            x.turn(17);
        }
        x.save();
        disturb(x);
        Check.yes("with a save", x.isSound());
        x.load(0);
        Check.yes("with a load", x.isSound());
        Check.due("asking made no save", x.save(), 1);

        Look.Story asked = y -> {
            busy(y);
            y.isSound();
        };
        Check.due("asking changes nothing", Look.at(asked), Look.at(WorldTest::busy));
    }
}
