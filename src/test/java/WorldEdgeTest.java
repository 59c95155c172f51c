/**
 * The edges of promises 40 to 48: saves, what is noted, sums, shares, means and soundness. Each test says in its
 * remark which sentence of the document it holds.
 */
public final class WorldEdgeTest {
    public static void main(String[] args) {
        Check.all(WorldEdgeTest.class);
    }

    // Saves

    /** Promise 40: "Throws IllegalStateException if there are 3"; the 3rd has room, and numbers are from 0. */
    private static void saveUpTo3() {
        Bandworld x = new Bandworld();
        for (int save = 0; save < 3; save++) {
            Check.due("the number", x.save(), save);
        }
        Edge.refused("a 4th", Edge.STATE, Edge::full, y -> y.save());
        Edge.refused("a 4th of the same", Edge.STATE, y -> {
            y.save();
            y.save();
            y.save();
        }, y -> y.save());
    }

    /** Terms: "all that is in them but [..] saves": loading makes no room for another one. */
    private static void saveHasNoRoomBehindALoad() {
        Edge.refused("behind a load", Edge.STATE, y -> {
            y.save();
            y.turn(1);
            y.save();
            y.turn(1);
            y.save();
            y.load(0);
        }, y -> y.save());
    }

    /** Promise 41: "Throws IndexOutOfBoundsException if there is no such save": none, two, or 3 of them. */
    private static void loadOfThoseThatAre() {
        Edge.refused("the first where there is none", Edge.INDEX, Edge::empty, y -> y.load(0));
        for (int save : Edge.beyond(0, 1)) {
            Edge.refused("of two, save " + save, Edge.INDEX, Edge::busy, y -> y.load(save));
        }
        for (int save : Edge.beyond(0, 2)) {
            Edge.refused("of 3, save " + save, Edge.INDEX, Edge::full, y -> y.load(save));
        }
    }

    /** Promise 41: "Returns its sum", of the first, the last and one of a world of nothing. */
    private static void loadReturnsTheSum() {
        Bandworld x = new Bandworld();
        long nothing = x.checksum();
        x.save();
        x.setTurning(11, -3000);
        x.addStorm(11, 3599, 400);
        x.save();
        long some = x.checksum();
        x.turn(1);
        x.save();
        long last = x.checksum();
        Check.due("the last", x.load(2), last);
        Check.due("of nothing", x.load(0), nothing);
        Check.due("then it is that", x.checksum(), nothing);
        Check.due("the second", x.load(1), some);
        Check.due("the second once more", x.load(1), some);
    }

    /** Terms: "At most 3 worlds are saved, with all that is in them": a full one goes on as if nothing had been. */
    private static void loadOfAFullWorld() {
        Look.Story loaded = y -> {
            Edge.full(y);
            y.turn(100);
            y.load(2);
        };
        Check.due("all of it", Look.at(loaded), Look.at(Edge::full));
    }

    /** Terms: "with all that is in them": an empty one has no storm, scar or note of the one that was left. */
    private static void loadOfAnEmptyWorld() {
        Bandworld x = new Bandworld();
        x.save();
        Edge.busy(x);
        x.load(0);
        Check.due("its sum", x.checksum(), new Bandworld().checksum());
        Check.due("no note", x.happenings(), 0);
        Check.due("no storm", Look.answer(x, y -> y.isThere(0)), "IndexOutOfBoundsException");
        Check.due("no scar", Look.answer(x, y -> y.getWidth(0)), "IndexOutOfBoundsException");
        Check.due("no name", Look.answer(x, y -> y.findName('A')), "NoSuchElementException");
        Check.due("no share", Look.answer(x, y -> y.thereShare()), "ArithmeticException");
        Check.due("no ice", Look.answer(x, y -> y.deck(2)), "NoSuchElementException");
        Check.due("nothing lost", x.getRadiated(), 0);
        Check.due("nothing in the deep", x.getDeep(), 0);
        Check.due("the first drag", x.setDrag(0), 0);
        Check.due("the first core", x.setCore(2), 2);
        Check.due("the first turn", x.turn(1), 1);
    }

    /** Terms: "At most 3 worlds are saved, with all that is in them": a loaded scar and storm are in their belts. */
    private static void loadBringsBeltsOfStormsAndScars() {
        Bandworld x = new Bandworld();
        x.setTurning(4, 180);
        x.strike(5, 0, 10);
        x.addStorm(4, 0, 10);
        x.strike(5, 0, 11);
        x.save();
        x.load(0);
        x.turn(1);
        Check.due("beside the wind", x.getWidth(0), 12);
        Check.due("in the wind", x.getLongitude(0), 20);

        Bandworld y = new Bandworld();
        y.save();
        y.setTurning(4, 180);
        y.strike(5, 0, 10);
        y.addStorm(4, 0, 10);
        y.save();
        y.load(0);
        y.strike(9, 0, 30);
        y.addStorm(9, 0, 40);
        y.load(1);
        y.turn(1);
        Check.due("its own belt, not that of another scar", y.getWidth(0), 12);
        Check.due("its own belt, not that of another storm", y.getLongitude(0), 20);
    }

    /** Two storms of which 0 lives on with a name of 1, a strike before and a torn one: all in the north. */
    private static void northern(Bandworld x) {
        x.setDrag(3);
        x.setTurning(2, 1800);
        x.strike(1, 0, 90);
        x.addStorm(2, 100, 90);
        x.addStorm(2, 110, 50);
        x.nameStorm(1, 'B');
        x.addStorm(1, 0, 10);
        x.turn(9);
    }

    /** As many things of each kind, but all otherwise. */
    private static void southern(Bandworld x) {
        x.setCore(9);
        x.setTemperature(9, 700);
        x.setVapour(9, 1, 20000);
        x.burst(8, 3000);
        x.addStorm(8, 3010, 70);
        x.addStorm(9, 3010, 71);
        x.nameStorm(0, 'C');
        x.nameStorm(2, 'B');
        x.setTurning(8, -90);
        x.strike(8, 0, 2);
        x.turn(4);
    }

    /** Terms: "a world that is loaded goes on from there": nothing is left in it of the one that was before. */
    private static void loadLeavesNothingOfAnotherWorld() {
        Look.Story straight = y -> {
            y.save();
            northern(y);
            y.save();
        };
        Look.Story aside = y -> {
            straight.tell(y);
            y.load(0);
            southern(y);
            y.load(1);
        };
        Check.due("the north behind the south", Look.at(aside), Look.at(straight));
        Look.Story straightSouth = y -> {
            y.save();
            southern(y);
            y.save();
        };
        Look.Story asideNorth = y -> {
            straightSouth.tell(y);
            y.load(0);
            northern(y);
            y.load(1);
        };
        Check.due("the south behind the north", Look.at(asideNorth), Look.at(straightSouth));
    }

    /** Terms: "all that is in them but frames, probes and saves": those are as before, be they as many as can be. */
    private static void loadLeavesFramesProbesAndSaves() {
        Bandworld x = new Bandworld();
        x.addStorm(5, 0, 10);
        x.nameStorm(0, 'A');
        x.save();
        x.turn(1);
        for (int frame = 0; frame < 6; frame++) {
            x.frame(0);
        }
        for (int probe = 0; probe < 4; probe++) {
            x.dropProbe(1, 60, 1, true);
        }
        x.tick(3);
        x.save();
        x.save();
        x.load(0);
        Check.due("frames", x.placeIn(5, 'A'), 0);
        Check.due("no room for frames", Look.answer(x, y -> y.frame(0)), "IllegalStateException");
        Check.due("probes", x.sent(3), 1);
        Check.due("no room for probes", Look.answer(x, y -> y.dropProbe(1, 1, 1, true)), "IllegalStateException");
        Check.due("the last save", x.load(2), x.checksum());
        Check.due("no room for saves", Look.answer(x, y -> y.save()), "IllegalStateException");
    }

    // What is noted

    /** 12 plumes, 8 strikes, and all 12 storms gone: as much as can ever be noted. */
    private static void allThatCanHappen(Bandworld x) {
        x.setTemperature(9, 999);
        for (int scar = 0; scar < 8; scar++) {
            x.strike(scar, 0, 1);
        }
        for (int storm = 0; storm < 12; storm++) {
            x.burst(0, 300 * storm);
        }
        x.setTurning(0, 3000);
        x.turn(50);
    }

    /** Promise 42: "Returns how much is noted": nothing at first, and "60 at most": 32 are the most that can happen. */
    private static void happeningsFromNoneToTheMost() {
        Check.due("at first", new Bandworld().happenings(), 0);
        Bandworld x = new Bandworld();
        allThatCanHappen(x);
        Check.due("8, 12 and 12", x.happenings(), 32);
        for (int index = 0; index < 32; index++) {
            char letter = index < 8 ? 'k' : index < 20 ? 'p' : 'd';
            Check.due("letter " + index, x.happening(index), letter);
            Check.due("number " + index, x.happenedTo(index), index < 8 ? index : (index - 8) % 12);
        }
    }

    /** Promise 43: "Throws NoSuchElementException if there is none": the index is from 0 to what is noted. */
    private static void happeningOfThoseThatAreNoted() {
        Edge.refused("the first where there is none", Edge.NONE, Edge::empty, y -> y.happening(0));
        for (int index : Edge.beyond(0, 0)) {
            Edge.refused("of one, " + index, Edge.NONE, y -> y.strike(5, 5, 5), y -> y.happening(index));
        }
        for (int index : Edge.beyond(0, 31)) {
            Edge.refused("of 32, " + index, Edge.NONE, WorldEdgeTest::allThatCanHappen, y -> y.happening(index));
        }
        Edge.refused("60", Edge.NONE, WorldEdgeTest::allThatCanHappen, y -> y.happening(60));
    }

    /** Promise 44: "Throws NoSuchElementException if there is none": the index is from 0 to what is noted. */
    private static void happenedToOfThoseThatAreNoted() {
        Edge.refused("the first where there is none", Edge.NONE, Edge::empty, y -> y.happenedTo(0));
        for (int index : Edge.beyond(0, 0)) {
            Edge.refused("of one, " + index, Edge.NONE, y -> y.strike(5, 5, 5), y -> y.happenedTo(index));
        }
        for (int index : Edge.beyond(0, 31)) {
            Edge.refused("of 32, " + index, Edge.NONE, WorldEdgeTest::allThatCanHappen, y -> y.happenedTo(index));
        }
        Edge.refused("60", Edge.NONE, WorldEdgeTest::allThatCanHappen, y -> y.happenedTo(60));
    }

    /** Terms: "'m' a merger, by the one that lives on, 'd' [..], 's' a split, by the new one, 'p' [..], 'k' [..]". */
    private static void happeningsOfEachKind() {
        Bandworld x = new Bandworld();
        x.setTemperature(9, 999);
        x.strike(1, 0, 1);
        x.burst(8, 0);
        x.addStorm(5, 0, 290);
        x.addStorm(5, 10, 300);
        x.addStorm(11, 0, 10);
        x.setTurning(11, 3000);
        x.turn(1);
        String text = "";
        for (int index = 0; index < x.happenings(); index++) {
            text += x.happening(index) + "" + x.happenedTo(index) + " ";
        }
        Check.due("a strike, a plume, a merger, one torn, a split", text, "k0 p0 m2 d3 s4 ");
    }

    /** Terms: adding, naming, stirring, frames, probes and saves are not noted. */
    private static void nothingElseHappens() {
        Bandworld x = new Bandworld();
        x.addStorm(5, 0, 50);
        x.nameStorm(0, 'A');
        x.stir(5, 6, 50);
        x.frame(0);
        x.dropProbe(1, 1, 1, true);
        x.tick(0);
        x.save();
        x.turn(5);
        x.load(0);
        Check.due("nothing", x.happenings(), 0);
    }

    // Sums, shares and means

    /** Promise 45: "Returns 7 at first [..]": with no storm and no turn, there is no part of a storm in it. */
    private static void checksumOfNoStorm() {
        long sum = 7;
        for (int level = 0; level < 10; level++) {
            sum = (31 * sum + 100 + 20 * level) * 31;
        }
        for (int belt = 0; belt < 12; belt++) {
            sum = 31 * sum;
        }
        Check.due("a new one", new Bandworld().checksum(), 31 * sum);
    }

    /** Promise 45: "for each storm 31 times itself plus its size, 0 if it is gone", to the last of 12. */
    private static void checksumOf12StormsAndOfThoseThatAreGone() {
        Bandworld x = new Bandworld();
        x.setCore(0);
        x.setTemperature(0, 99);
        long sum = 7;
        for (int level = 0; level < 10; level++) {
            sum = (31 * sum + (level == 0 ? 99 : 100 + 20 * level)) * 31;
        }
        x.setTurning(0, 3000);
        for (int belt = 0; belt < 12; belt++) {
            sum = 31 * sum + (belt == 0 ? 3000 : 0);
        }
        for (int storm = 0; storm < 12; storm++) {
            boolean isTorn = storm % 2 == 0;
            x.addStorm(isTorn ? 0 : storm, 300 * storm, 10 + storm / 2);
            boolean isGone = storm == 0 || storm == 1;
            int size = isGone ? 0 : isTorn ? 9 + storm / 2 : 10 + storm / 2;
            sum = 31 * sum + size;
            sum = 31 * sum + (isTorn ? (300 * storm + 1500) % 3600 : 300 * storm);
        }
        x.turn(1);
        // 0 was of 10 in the belt 0, 1 of 10 in the belt 1, where the shear of the wind 1500 is as well.
        Check.no("0 is gone", x.isThere(0));
        Check.no("1 is gone", x.isThere(1));
        Check.due("the sum", x.checksum(), 31 * sum + 1);
    }

    /** Promise 45: "plus its vapours and ice together": of the level 9 and of the level 0. */
    private static void checksumOfVapoursAndIceTogether() {
        Bandworld x = new Bandworld();
        long power = 1;
        for (int i = 0; i < 13; i++) {
            power *= 31;
        }
        long before = x.checksum();
        x.setVapour(9, 0, 5);
        x.setVapour(9, 1, 20);
        x.setVapour(9, 2, 20000);
        Check.due("vapours of the level 9", x.checksum(), before + 20025 * power);
        x.setCore(0);
        x.setTemperature(0, 99);
        before = x.checksum();
        x.turn(1);
        Check.yes("some froze", x.getIce(9, 2) > 0);
        Check.due("then with ice, and a turn", x.checksum(), before + 1);
        for (int i = 0; i < 18; i++) {
            power *= 31;
        }
        before = x.checksum();
        x.setVapour(0, 2, 7);
        Check.due("vapour of the level 0", x.checksum(), before + 7 * power);
    }

    /** Promise 45: what is less than nothing counts as that: turnings below 0. */
    private static void checksumOfTurningsBelowNothing() {
        Bandworld x = new Bandworld();
        long before = x.checksum();
        x.setTurning(11, -3000);
        Check.due("the last belt", x.checksum(), before - 31L * 3000);
        x.setTurning(10, -1);
        Check.due("the one before it", x.checksum(), before - 31L * 3000 - 31L * 31);
    }

    /** Promise 46: "Throws ArithmeticException if there were none": in a new world, and in one that is loaded. */
    private static void thereShareOfNone() {
        Edge.refused("a new world", Edge.DIVISION, Edge::empty, y -> y.thereShare());
        Edge.refused("scars are no storms", Edge.DIVISION, y -> y.strike(5, 5, 5), y -> y.thereShare());
        Edge.refused("loaded", Edge.DIVISION, y -> {
            y.save();
            y.addStorm(5, 0, 50);
            y.load(0);
        }, y -> y.thereShare());
    }

    /** Promise 46: "Returns their number divided by that of all, both converted to float": none, some and all of 12. */
    private static void thereShareFromNoneToAll() {
        Bandworld x = new Bandworld();
        x.addStorm(0, 0, 10);
        Check.due("1 of 1", x.thereShare(), 1.0f);
        x.setTurning(0, 3000);
        x.turn(1);
        Check.due("0 of 1", x.thereShare(), 0.0f);
        x.addStorm(8, 0, 10);
        x.addStorm(8, 1800, 10);
        Check.due("2 of 3", x.thereShare(), 2.0f / 3.0f);
        for (int storm = 3; storm < 12; storm++) {
            x.addStorm(9, 300 * storm, 10);
        }
        Check.due("11 of 12", x.thereShare(), 11.0f / 12.0f);
        Bandworld y = new Bandworld();
        Edge.full(y);
        Check.due("of a full world", y.thereShare(), 12.0f / 12.0f);
    }

    /** Promise 47: "Returns the sum divided by 12, both converted to double": of nothing, of less, of all belts. */
    private static void meanWindOfNothingLessAndAll() {
        Bandworld x = new Bandworld();
        Check.due("calm", x.meanWind(), 0.0);
        x.setTurning(11, -3);
        Check.due("-1 of the last belt", x.meanWind(), -1.0 / 12.0);
        x.setTurning(0, 3);
        Check.due("both take each other away", x.meanWind(), 0.0);
        x.setTurning(11, 1);
        Check.due("1 of the first belt", x.meanWind(), 1.0 / 12.0);
        int[] widths = {2, 4, 6, 8, 9, 10, 10, 9, 8, 6, 4, 2};
        int sum = 0;
        for (int belt = 0; belt < 12; belt++) {
            x.setTurning(belt, 3000);
            sum += 3000 / widths[belt];
        }
        Check.due("all", x.meanWind(), sum / 12.0);
    }

    // Soundness and the last call

    /** Promise 48: "degrees are those told, less those lost, and more by the core; vapours and ice are those told". */
    private static void soundAtTheEdgesOfTheColumn() {
        for (int level = 0; level < 10; level++) {
            Bandworld x = new Bandworld();
            x.setCore(9);
            x.setTemperature(level, 999);
            x.setTemperature(9 - level, 50);
            for (int vapour = 0; vapour < 3; vapour++) {
                x.setVapour(level, vapour, 20000);
                x.setVapour(9 - level, vapour, 1);
            }
            Check.yes("told", x.isSound());
            x.turn(1);
            Check.yes("behind a turn", x.isSound());
            x.setVapour(level, 0, 0);
            x.setTemperature(level, 50);
            Check.yes("told again", x.isSound());
            x.turn(200);
            Check.yes("behind 201 turns", x.isSound());
        }
    }

    /** Promise 48: "turning and that of the deep are those told". */
    private static void soundAtTheEdgesOfBelts() {
        for (int drag : new int[] {0, 1, 50}) {
            Bandworld x = new Bandworld();
            x.setDrag(drag);
            for (int belt = 0; belt < 12; belt++) {
                x.setTurning(belt, belt % 2 == 0 ? -3000 : 3000);
            }
            x.stir(0, 1, 3000);
            x.stir(10, 11, 1);
            Check.yes("stirred, drag " + drag, x.isSound());
            x.turn(3);
            Check.yes("dragged, drag " + drag, x.isSound());
            x.setTurning(0, 0);
            Check.yes("told again, drag " + drag, x.isSound());
        }
    }

    /** Promise 48: "no name is twice; storms that are there are 10 to 400": those that are gone count for neither. */
    private static void soundWithNamesAndSizesOfThoseThatAreGone() {
        Bandworld x = new Bandworld();
        x.addStorm(0, 0, 10);
        x.addStorm(8, 0, 400);
        Check.yes("one of 10, one of 400", x.isSound());
        x.nameStorm(0, 'A');
        x.nameStorm(1, 'B');
        x.setTurning(0, 3000);
        x.turn(1);
        Check.no("one is gone, of 9", x.isThere(0));
        x.nameStorm(1, 'A');
        Check.yes("its name is had again", x.isSound());
        x.turn(200);
        Check.yes("much later", x.isSound());
    }

    /** Promise 48: "a world that is saved and loaded has the same sum": of an empty, a busy and a full one. */
    private static void soundWithSaves() {
        Bandworld x = new Bandworld();
        Check.yes("empty", x.isSound());
        x.save();
        Check.yes("empty and saved", x.isSound());
        x.load(0);
        Check.yes("empty and loaded", x.isSound());
        Bandworld busy = new Bandworld();
        Edge.busy(busy);
        Check.yes("busy", busy.isSound());
        busy.load(0);
        Check.yes("busy and loaded", busy.isSound());
        Bandworld full = new Bandworld();
        Edge.full(full);
        Check.yes("full", full.isSound());
        full.load(2);
        Check.yes("full and loaded", full.isSound());
    }

    /** Promise 48: "those told": what was told behind a save is none of it when that is loaded. */
    private static void soundWithWhatWasToldBehindASave() {
        Bandworld x = new Bandworld();
        x.save();
        x.setTemperature(5, 999);
        Check.yes("degrees", loadedIsSound(x));
        x.setVapour(5, 2, 20000);
        Check.yes("vapour", loadedIsSound(x));
        x.setTurning(5, 3000);
        Check.yes("turning", loadedIsSound(x));
        x.setTemperature(0, 999);
        x.setDrag(1);
        x.setTurning(5, 3000);
        x.turn(1);
        Check.yes("lost degrees, the core and the deep", loadedIsSound(x));
    }

    private static boolean loadedIsSound(Bandworld x) {
        x.load(0);
        return x.isSound();
    }

    /** Promise 48: "Returns whether [..]": asking changes nothing, not even how many can be saved. */
    private static void askingWhetherItIsSoundChangesNothing() {
        Look.Story[] worlds = {Edge::empty, Edge::busy, Edge::full};
        for (Look.Story world : worlds) {
            Look.Story asked = y -> {
                world.tell(y);
                y.isSound();
                y.isSound();
            };
            Check.due("a world that was asked", Look.at(asked), Look.at(world));
        }
    }

    /** "An object is used for at most 512 calls after it has been made": the 512th is answered as any other one. */
    private static void the512thCall() {
        Bandworld x = new Bandworld();
        for (int call = 1; call <= 511; call++) {
            x.stir(1, 0, 3000);
        }
        Check.due("the 512th call", x.getWind(0), 511 * 1500);
        Bandworld refused = new Bandworld();
        for (int call = 1; call <= 511; call++) {
            Look.answer(refused, y -> y.load(0));
        }
        Check.due("behind 511 that were refused", refused.checksum(), new Bandworld().checksum());
    }
}
