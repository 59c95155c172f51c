/**
 * The edges of promises 18 to 25: storms. Each test says in its remark which sentence of the document it holds.
 */
public final class StormEdgeTest {
    public static void main(String[] args) {
        Check.all(StormEdgeTest.class);
    }

    /** A storm that was torn by shear, and one that is there. */
    private static void tornAndThere(Bandworld x) {
        x.addStorm(0, 7, 10);
        x.addStorm(8, 9, 20);
        x.nameStorm(0, 'A');
        x.nameStorm(1, 'B');
        x.setTurning(0, 3000);
        x.turn(1);
    }

    /** A storm that went into another one: 0 lives in 1. */
    private static void merged(Bandworld x) {
        x.addStorm(5, 7, 10);
        x.addStorm(5, 9, 20);
        x.nameStorm(0, 'A');
        x.turn(1);
    }

    // Adding

    /** Promise 18: "Throws IndexOutOfBoundsException if there is no such belt". */
    private static void addStormInBelts0To11() {
        Bandworld x = new Bandworld();
        Check.due("belt 0", x.addStorm(0, 5, 50), 0);
        Check.due("belt 11", x.addStorm(11, 5, 50), 1);
        for (int belt : Edge.beyond(0, 11)) {
            Edge.refused("belt " + belt, Edge.INDEX, y -> y.addStorm(belt, 5, 50));
        }
    }

    /** Promise 18: "Throws IllegalArgumentException if a number is out of range"; "a longitude, 0 to 3599". */
    private static void addStormAtLongitudes0To3599() {
        Bandworld x = new Bandworld();
        Check.due("longitude 0", x.addStorm(4, 0, 50), 0);
        Check.due("longitude 3599", x.addStorm(5, 3599, 50), 1);
        Check.due("0 then", x.getLongitude(0), 0);
        Check.due("3599 then", x.getLongitude(1), 3599);
        for (int longitude : Edge.beyond(0, 3599)) {
            Edge.refused("longitude " + longitude, Edge.ARGUMENT, y -> y.addStorm(4, longitude, 50));
        }
    }

    /** Promise 18: "Throws IllegalArgumentException if a number is out of range"; "a size, 10 to 400 as it is told". */
    private static void addStormOfSizes10To400() {
        Bandworld x = new Bandworld();
        Check.due("size 10", x.addStorm(4, 5, 10), 0);
        Check.due("size 400", x.addStorm(5, 5, 400), 1);
        Check.due("10 then", x.getSize(0), 10);
        Check.due("400 then", x.getSize(1), 400);
        for (int size : Edge.beyond(10, 400)) {
            Edge.refused("size " + size, Edge.ARGUMENT, y -> y.addStorm(4, 5, size));
        }
        Edge.refused("size 0", Edge.ARGUMENT, y -> y.addStorm(4, 5, 0));
    }

    /** Promise 18: "Throws IllegalStateException if there were 12"; the 12th has room. */
    private static void addStormUpTo12() {
        Bandworld x = new Bandworld();
        for (int storm = 0; storm < 12; storm++) {
            Check.due("the number", x.addStorm(storm, 0, 10), storm);
        }
        Edge.refused("a 13th", Edge.STATE, Edge::full, y -> y.addStorm(5, 0, 50));
    }

    /** Terms: "At most 12 are numbered from 0, those that are gone counted": numbers are not given again. */
    private static void stormsThatAreGoneCount() {
        Look.Story allTorn = y -> {
            y.setTurning(0, 3000);
            for (int storm = 0; storm < 12; storm++) {
                y.addStorm(0, 300 * storm, 10);
            }
            y.turn(1);
        };
        Bandworld x = new Bandworld();
        allTorn.tell(x);
        Check.due("all are gone", x.thereShare(), 0.0f);
        Edge.refused("a 13th where none is there", Edge.STATE, allTorn, y -> y.addStorm(5, 0, 50));
        Bandworld one = new Bandworld();
        tornAndThere(one);
        Check.due("the next number", one.addStorm(5, 0, 50), 2);
    }

    /** Terms: "the one that is documented first is thrown": promise 18. */
    private static void addStormLooksAtBeltThenNumbersThenRoom() {
        Edge.refused("belt 12, longitude 3600", Edge.INDEX, y -> y.addStorm(12, 3600, 50));
        Edge.refused("belt -1, size 9", Edge.INDEX, y -> y.addStorm(-1, 0, 9));
        Edge.refused("belt 12, no room", Edge.INDEX, Edge::full, y -> y.addStorm(12, 0, 50));
        Edge.refused("longitude -1, no room", Edge.ARGUMENT, Edge::full, y -> y.addStorm(0, -1, 50));
        Edge.refused("size 401, no room", Edge.ARGUMENT, Edge::full, y -> y.addStorm(0, 0, 401));
        Edge.refused("all of them", Edge.INDEX, Edge::full, y -> y.addStorm(-1, -1, 9));
    }

    // Names

    /** Promise 19: "Throws IndexOutOfBoundsException if there is no such storm". */
    private static void nameStormOfThoseThatWere() {
        Edge.refused("the first where there is none", Edge.INDEX, Edge::empty, y -> y.nameStorm(0, 'C'));
        for (int storm : Edge.beyond(0, 1)) {
            Edge.refused("storm " + storm, Edge.INDEX, StormEdgeTest::tornAndThere, y -> y.nameStorm(storm, 'C'));
        }
        for (int storm : Edge.beyond(0, 11)) {
            Edge.refused("of 12, storm " + storm, Edge.INDEX, Edge::full, y -> y.nameStorm(storm, 'C'));
        }
        Bandworld x = new Bandworld();
        Edge.full(x);
        Check.due("the last of 12", x.nameStorm(11, 'C'), 'B');
    }

    /** Promise 19: "Throws IllegalArgumentException if there is no such name"; it is "'A' to 'Z'". */
    private static void nameStormFromAToZ() {
        Bandworld x = new Bandworld();
        x.addStorm(3, 0, 10);
        Check.due("'A', none before", x.nameStorm(0, 'A'), '-');
        Check.due("'Z' behind 'A'", x.nameStorm(0, 'Z'), 'A');
        Check.due("'Z' is found", x.findName('Z'), 0);
        for (char name : Edge.NO_NAMES) {
            Edge.refused("name " + (int) name, Edge.ARGUMENT, StormEdgeTest::tornAndThere, y -> y.nameStorm(1, name));
        }
    }

    /** Promise 19: "Throws UnsupportedOperationException if it is gone": by shear, or in another one. */
    private static void nameStormThatIsGone() {
        Edge.refused("torn", Edge.UNSUPPORTED, StormEdgeTest::tornAndThere, y -> y.nameStorm(0, 'C'));
        Edge.refused("torn, by its own name", Edge.UNSUPPORTED, StormEdgeTest::tornAndThere, y -> y.nameStorm(0, 'A'));
        Edge.refused("merged", Edge.UNSUPPORTED, StormEdgeTest::merged, y -> y.nameStorm(0, 'C'));
    }

    /** Promise 19: "Throws UnsupportedOperationException if [..] another one that is there has the name". */
    private static void nameStormByANameThatIsHad() {
        Look.Story both = y -> {
            y.addStorm(3, 0, 10);
            y.addStorm(4, 0, 10);
            y.nameStorm(0, 'A');
            y.nameStorm(1, 'Z');
        };
        Edge.refused("'Z' for 0", Edge.UNSUPPORTED, both, y -> y.nameStorm(0, 'Z'));
        Edge.refused("'A' for 1", Edge.UNSUPPORTED, both, y -> y.nameStorm(1, 'A'));
        Bandworld x = new Bandworld();
        both.tell(x);
        Check.due("its own one is none of another", x.nameStorm(0, 'A'), 'A');
        Check.due("and stays", x.findName('A'), 0);
    }

    /** Terms: a name "which no other one that is there has": that of one that is gone is free, and an old one. */
    private static void nameStormByANameThatIsFree() {
        Bandworld x = new Bandworld();
        tornAndThere(x);
        Check.due("that of one that is gone", x.nameStorm(1, 'A'), 'B');
        x.addStorm(5, 0, 50);
        Check.due("that which was given up", x.nameStorm(2, 'B'), '-');
    }

    /** Terms: "the one that is documented first is thrown": promise 19. */
    private static void nameStormLooksAtStormThenNameThenWhetherItMay() {
        Edge.refused("storm 2, 'a'", Edge.INDEX, StormEdgeTest::tornAndThere, y -> y.nameStorm(2, 'a'));
        Edge.refused("storm -1, a name of 1", Edge.INDEX, StormEdgeTest::tornAndThere, y -> y.nameStorm(-1, 'B'));
        Edge.refused("gone, '@'", Edge.ARGUMENT, StormEdgeTest::tornAndThere, y -> y.nameStorm(0, '@'));
    }

    /** Promise 20: "Throws IllegalArgumentException if there is no such name", though a storm has none, told as '-'. */
    private static void findNameFromAToZ() {
        Bandworld x = new Bandworld();
        x.addStorm(3, 0, 10);
        x.addStorm(4, 0, 10);
        x.nameStorm(0, 'Z');
        x.nameStorm(1, 'A');
        Check.due("'A'", x.findName('A'), 1);
        Check.due("'Z'", x.findName('Z'), 0);
        for (char name : Edge.NO_NAMES) {
            Edge.refused("name " + (int) name, Edge.ARGUMENT, y -> y.findName(name));
        }
        Edge.refused("'-' of a storm without name", Edge.ARGUMENT, y -> y.addStorm(3, 0, 10), y -> y.findName('-'));
    }

    /** Promise 20: "Throws NoSuchElementException if none has it": no storm, another name, or one that is gone. */
    private static void findNameThatNoneHas() {
        Edge.refused("no storm", Edge.NONE, Edge::empty, y -> y.findName('A'));
        Edge.refused("no such one", Edge.NONE, Edge::busy, y -> y.findName('Y'));
        Edge.refused("that of one that is gone", Edge.NONE, StormEdgeTest::tornAndThere, y -> y.findName('A'));
    }

    // What a storm tells

    /** Promise 21: "Throws IndexOutOfBoundsException if there is no such storm". */
    private static void getLongitudeOfThoseThatWere() {
        refusedBeyond(storm -> y -> y.getLongitude(storm));
    }

    /** Promise 22: "Throws IndexOutOfBoundsException if there is no such storm". */
    private static void getSizeOfThoseThatWere() {
        refusedBeyond(storm -> y -> y.getSize(storm));
    }

    /** Promise 23: "Throws IndexOutOfBoundsException if there is no such storm". */
    private static void getAgeOfThoseThatWere() {
        refusedBeyond(storm -> y -> y.getAge(storm));
    }

    /** Promise 24: "Throws IndexOutOfBoundsException if there is no such storm". */
    private static void isThereOfThoseThatWere() {
        refusedBeyond(storm -> y -> y.isThere(storm));
    }

    /** Promise 25: "Throws IndexOutOfBoundsException if there is no such storm". */
    private static void livesInOfThoseThatWere() {
        refusedBeyond(storm -> y -> y.livesIn(storm));
    }

    private interface Call {
        Look.Ask of(int storm);
    }

    /** In a new world, in one of two storms and in one of 12; the last one answers. */
    private static void refusedBeyond(Call call) {
        Edge.refused("the first where there is none", Edge.INDEX, Edge::empty, call.of(0));
        for (int storm : Edge.beyond(0, 1)) {
            Edge.refused("of two, storm " + storm, Edge.INDEX, StormEdgeTest::tornAndThere, call.of(storm));
        }
        for (int storm : Edge.beyond(0, 11)) {
            Edge.refused("of 12, storm " + storm, Edge.INDEX, Edge::full, call.of(storm));
        }
        for (int storm : new int[] {0, 11}) {
            Bandworld x = new Bandworld();
            Edge.full(x);
            Check.no("storm " + storm + " answers", Look.answer(x, call.of(storm)).endsWith("Exception"));
        }
    }

    /** Promise 21: "Throws NoSuchElementException if it is gone". */
    private static void getLongitudeOfOneThatIsGone() {
        Edge.refused("torn", Edge.NONE, StormEdgeTest::tornAndThere, y -> y.getLongitude(0));
        Edge.refused("merged", Edge.NONE, StormEdgeTest::merged, y -> y.getLongitude(0));
    }

    /** Promise 22: "Throws NoSuchElementException if it is gone". */
    private static void getSizeOfOneThatIsGone() {
        Edge.refused("torn", Edge.NONE, StormEdgeTest::tornAndThere, y -> y.getSize(0));
        Edge.refused("merged", Edge.NONE, StormEdgeTest::merged, y -> y.getSize(0));
    }

    /** Promise 23: "Returns how many turns a storm was there": 0 at first, and no more when it is gone. */
    private static void getAgeFromNothingToItsEnd() {
        Bandworld x = new Bandworld();
        x.addStorm(0, 7, 10);
        Check.due("at first", x.getAge(0), 0);
        x.turn(200);
        Check.due("behind 200 turns", x.getAge(0), 200);
        x.setTurning(0, 3000);
        x.turn(1);
        Check.due("the turn in which it went", x.getAge(0), 201);
        x.turn(1);
        Check.due("no more", x.getAge(0), 201);
        Bandworld y = new Bandworld();
        merged(y);
        Check.due("the turn of the merger too", y.getAge(0), 1);
        y.turn(1);
        Check.due("no more behind it", y.getAge(0), 1);
        Check.due("that which lives on", y.getAge(1), 2);
    }

    /** Promise 24: "Returns whether a storm is there": torn, merged or neither. */
    private static void isThereOfOneThatIsGone() {
        Bandworld x = new Bandworld();
        tornAndThere(x);
        Check.no("torn", x.isThere(0));
        Check.yes("there", x.isThere(1));
        Bandworld y = new Bandworld();
        merged(y);
        Check.no("merged", y.isThere(0));
        Check.yes("lives on", y.isThere(1));
    }

    /** Promise 25: "Returns its number, the own one if it is there": by no merger and by one. */
    private static void livesInItselfOrByOneMerger() {
        Bandworld x = new Bandworld();
        merged(x);
        Check.due("itself", x.livesIn(1), 1);
        Check.due("by one", x.livesIn(0), 1);
    }

    /** Promise 25: "in which a storm lives on, by one merger or several": by eleven of 12 storms in one turn. */
    private static void livesInByElevenMergers() {
        int[] sizes = {10, 11, 15, 21, 30, 42, 60, 85, 121, 171, 242, 342};
        Bandworld x = new Bandworld();
        for (int size : sizes) {
            x.addStorm(5, 0, size);
        }
        x.turn(1);
        Check.due("eleven mergers", x.happenings(), 11);
        for (int storm = 0; storm < 12; storm++) {
            Check.due("storm " + storm, x.livesIn(storm), 11);
        }
        for (int merger = 0; merger < 11; merger++) {
            Check.due("merger " + merger, x.happenedTo(merger), merger + 1);
        }
    }

    /** Promise 25: "Throws NoSuchElementException if there is none": torn, or gone into one that was torn then. */
    private static void livesInNone() {
        Edge.refused("torn, the first one", Edge.NONE, StormEdgeTest::tornAndThere, y -> y.livesIn(0));
        Edge.refused("torn, the last one", Edge.NONE, y -> {
            y.addStorm(8, 0, 20);
            y.addStorm(0, 0, 10);
            y.setTurning(0, 3000);
            y.turn(1);
        }, y -> y.livesIn(1));
        Look.Story mergedThenTorn = y -> {
            merged(y);
            y.setTurning(4, 3000);
            y.turn(50);
        };
        Edge.refused("its heir is torn", Edge.NONE, mergedThenTorn, y -> y.livesIn(0));
        Edge.refused("the heir", Edge.NONE, mergedThenTorn, y -> y.livesIn(1));
    }

    // Going on

    private static int gone(int belt, int longitude, int turning, int turns) {
        Bandworld x = new Bandworld();
        x.addStorm(belt, longitude, 400);
        x.setTurning(belt, turning);
        x.turn(turns);
        return x.getLongitude(0);
    }

    /** Terms: "each that is there goes on by its wind, round the longitudes": over both ends. */
    private static void windBlowsRoundTheLongitudes() {
        Check.due("3598 and 1", gone(5, 3598, 10, 1), 3599);
        Check.due("3599 and 1", gone(5, 3599, 10, 1), 0);
        Check.due("1 and -1", gone(5, 1, -10, 1), 0);
        Check.due("0 and -1", gone(5, 0, -10, 1), 3599);
        Check.due("3599 and 0", gone(5, 3599, 9, 1), 3599);
        Check.due("0 and -0", gone(5, 0, -9, 1), 0);
        Check.due("once round in 12 turns", gone(5, 77, 3000, 12), 77);
        Check.due("once back in 12 turns", gone(5, 77, -3000, 12), 77);
    }

    /** Terms: "round the longitudes", more than once in one turn too, as turning can be stirred beyond 3000. */
    private static void windBlowsRoundMoreThanOnce() {
        int[] stirs = {2, 3, 5};
        for (int some : stirs) {
            Bandworld x = new Bandworld();
            x.addStorm(0, 10, 400);
            x.addStorm(1, 10, 400);
            for (int i = 0; i < some; i++) {
                x.stir(1, 0, 3000);
            }
            x.turn(1);
            Check.due(some + " times 1500 on", x.getLongitude(0), (10 + 1500 * some) % 3600);
            Check.due(some + " times 750 back", x.getLongitude(1), (10 + 7200 - 750 * some) % 3600);
        }
    }

    /** Terms: "each that is there": one that is gone does not go on; its longitude counts in the sum alone. */
    private static void windLeavesThoseThatAreGone() {
        Bandworld x = new Bandworld();
        x.addStorm(0, 7, 10);
        x.setTurning(0, 3000);
        x.turn(1);
        x.setCore(0);
        long sum = x.checksum();
        x.turn(1);
        Check.due("the sum grows by the turn alone", x.checksum(), sum + 1);
    }

    // Meeting

    private static boolean doMeet(int longitude, int size, int other, int otherSize) {
        Bandworld x = new Bandworld();
        x.addStorm(5, longitude, size);
        x.addStorm(5, other, otherSize);
        x.turn(1);
        return !x.isThere(0) || !x.isThere(1);
    }

    /** Terms: "nearer to each other [..] than half of the sum of both sizes": just as far is not nearer. */
    private static void meetNearerThanHalf() {
        Check.yes("9 of 10", doMeet(100, 10, 109, 10));
        Check.no("10 of 10", doMeet(100, 10, 110, 10));
        Check.yes("9 of 10, the lower number ahead", doMeet(109, 10, 100, 10));
        Check.no("10 of 10, the lower number ahead", doMeet(110, 10, 100, 10));
        Check.yes("299 of 300", doMeet(0, 300, 299, 300));
        Check.no("300 of 300", doMeet(0, 300, 300, 300));
        Check.yes("0 of 10", doMeet(9, 10, 9, 10));
    }

    /** Terms: "half of the sum of both sizes, cut": of an odd sum. */
    private static void meetNearerThanHalfCut() {
        Check.yes("10 of 10 and a half, nearer by one", doMeet(100, 10, 109, 11));
        Check.no("10 of 10 and a half", doMeet(100, 10, 110, 11));
        Check.yes("10 of 11", doMeet(100, 11, 110, 11));
        Check.yes("11 of 11 and a half, nearer by one", doMeet(100, 12, 110, 11));
        Check.no("11 of 11 and a half", doMeet(100, 12, 111, 11));
    }

    /** Terms: "nearer to each other, round the longitudes". */
    private static void meetRoundTheLongitudes() {
        Check.yes("3595 and 4", doMeet(3595, 10, 4, 10));
        Check.no("3595 and 5", doMeet(3595, 10, 5, 10));
        Check.yes("4 and 3595", doMeet(4, 10, 3595, 10));
        Check.no("5 and 3595", doMeet(5, 10, 3595, 10));
        Check.yes("3599 and 0", doMeet(3599, 10, 0, 10));
        Check.no("opposite", doMeet(0, 300, 1800, 300));
    }

    /** Terms: "two in one belt meet": not of two belts, be they neighbours or both ends. */
    private static void meetInOneBeltAlone() {
        int[][] belts = {{5, 6}, {0, 11}, {5, 7}};
        for (int[] pair : belts) {
            Bandworld x = new Bandworld();
            x.addStorm(pair[0], 10, 100);
            x.addStorm(pair[1], 10, 100);
            x.turn(1);
            Check.due("of the belts " + pair[0] + " and " + pair[1], x.thereShare(), 1.0f);
        }
    }

    /** Terms: those that are gone meet none: neither one of a higher number that is near to where it was. */
    private static void meetNoneOfALowerNumberThatIsGone() {
        Bandworld x = new Bandworld();
        x.addStorm(5, 0, 100);
        x.addStorm(5, 90, 90);
        x.turn(1);
        Check.due("1 went into 0", x.livesIn(1), 0);
        // It is 50 from where 1 was, which had 90, and 140 from 0, which has 134.
        x.addStorm(5, 140, 20);
        x.turn(1);
        Check.due("one merger", x.happenings(), 1);
        Check.yes("2 met none", x.isThere(2));
    }

    /** Terms: those that are gone meet none: nor one of a lower number that grew up to where it was. */
    private static void meetNoneOfAHigherNumberThatIsGone() {
        Bandworld x = new Bandworld();
        x.addStorm(5, 0, 100);
        x.addStorm(5, 80, 50);
        x.addStorm(5, 115, 60);
        x.turn(1);
        Check.due("1 went into 2", x.livesIn(1), 2);
        x.addStorm(5, 3510, 90);
        x.turn(1);
        Check.due("0 took 3", x.getSize(0), 134);
        // It is 80 from where 1 was, which had 50, and 115 from 2, which has 78.
        x.turn(1);
        Check.due("two mergers", x.happenings(), 2);
        Check.yes("0 and 2 are there", x.isThere(0) && x.isThere(2));
    }

    /** Terms: "the greater one lives on": by one, whichever number it has. */
    private static void greaterOneLivesOn() {
        for (int greater = 0; greater < 2; greater++) {
            Bandworld x = new Bandworld();
            x.addStorm(5, 0, greater == 0 ? 51 : 50);
            x.turn(greater == 0 ? 1 : 2);
            x.addStorm(5, 5, greater == 0 ? 50 : 51);
            x.turn(1);
            Check.due("the number " + greater, x.livesIn(1 - greater), greater);
        }
    }

    /** Terms: "of like ones the older one": by one turn. (A lower number is never younger than a higher one.) */
    private static void olderOneOfLikeOnesLivesOn() {
        Bandworld x = new Bandworld();
        x.addStorm(5, 0, 50);
        x.turn(1);
        x.addStorm(5, 5, 50);
        x.turn(1);
        Check.due("the one of two turns", x.livesIn(1), 0);
    }

    /** Terms: "of like ones the older one, then the lower number": a split and one that came behind it have one age. */
    private static void lowerNumberOfASplitAndANewOneLivesOn() {
        Bandworld x = new Bandworld();
        x.addStorm(5, 3000, 301);
        x.turn(1);
        x.addStorm(5, 3299, 100);
        Check.due("one age", x.getAge(1), x.getAge(2));
        Check.due("one size", x.getSize(1), x.getSize(2));
        x.turn(1);
        Check.due("the split has the lower number", x.livesIn(2), 1);
    }

    /** Terms: "of like ones the older one, then the lower number": of one size and one age. */
    private static void lowerNumberOfLikeOnesLivesOn() {
        Bandworld x = new Bandworld();
        x.addStorm(5, 5, 50);
        x.addStorm(5, 0, 50);
        x.turn(1);
        Check.due("the number 0", x.livesIn(1), 0);
        Check.due("at its place", x.getLongitude(0), 5);
    }

    /** Terms: "pair by pair, the lower number first": 0 and 1, 0 and 2, then 1 and 2, by what they are then. */
    private static void pairsByTheLowerNumberFirst() {
        Bandworld x = new Bandworld();
        x.addStorm(5, 100, 60);
        x.addStorm(5, 150, 60);
        x.addStorm(5, 60, 60);
        x.turn(1);
        Check.due("1 goes first", x.livesIn(1), 0);
        Check.due("then 2", x.livesIn(2), 0);
        // 84 by the first merger, 103 by the second one.
        Check.due("both in 0", x.getSize(0), 103);
    }

    /** Terms: "pair by pair": a pair that is behind it does not meet in the same turn by what grew since. */
    private static void pairsMeetOnceInATurn() {
        Bandworld x = new Bandworld();
        x.addStorm(5, 100, 60);
        x.addStorm(5, 161, 60);
        x.addStorm(5, 135, 30);
        x.turn(1);
        // 0 and 1 are 61 apart with 60 each; then 0 takes 2 and has 67.
        Check.due("2 went into 0", x.livesIn(2), 0);
        Check.due("1 is met no more", x.livesIn(1), 1);
        x.turn(1);
        Check.due("in the next turn it is", x.livesIn(1), 0);
    }

    private static int sizeOf(int size, int other) {
        Bandworld x = new Bandworld();
        x.addStorm(5, 0, size);
        x.addStorm(5, 0, other);
        x.turn(1);
        return x.getSize(x.livesIn(0));
    }

    /** Terms: "with the greatest whole size whose square is not above the sum of both squares". */
    private static void mergedSizeIsTheGreatestWholeOne() {
        Check.due("just a square", sizeOf(12, 16), 20);
        Check.due("one above a square", sizeOf(10, 15), 18);
        Check.due("one below a square", sizeOf(10, 50), 50);
        Check.due("one below a square, like ones", sizeOf(12, 12), 16);
        Check.due("two above a square", sizeOf(11, 59), 60);
        Check.due("the least ones", sizeOf(10, 10), 14);
        Check.due("just 300", sizeOf(180, 240), 300);
        Check.due("one grows by nothing", sizeOf(300, 10), 300);
    }

    /** The size behind a merger in a world where nothing can split. */
    private static int sizeWithoutRoom(int size, int other) {
        Bandworld x = new Bandworld();
        x.addStorm(5, 0, size);
        x.addStorm(5, 0, other);
        for (int storm = 2; storm < 12; storm++) {
            x.addStorm(8, 300 * storm, 10);
        }
        x.turn(1);
        return x.getSize(x.livesIn(0));
    }

    /** Terms: "400 at most". */
    private static void mergedSizeIs400AtMost() {
        Check.due("399 by itself", sizeWithoutRoom(282, 283), 399);
        Check.due("400 by itself", sizeWithoutRoom(240, 320), 400);
        Check.due("400 and some more", sizeWithoutRoom(283, 284), 400);
        Check.due("401 would be", sizeWithoutRoom(284, 284), 400);
        Check.due("565 would be", sizeWithoutRoom(400, 400), 400);
    }

    /** Terms: "it takes the name of the other one, if it has none". */
    private static void nameOfTheOtherOneIsTakenByOneWithoutName() {
        for (int named = 0; named < 4; named++) {
            Bandworld x = new Bandworld();
            x.addStorm(5, 0, 50);
            x.addStorm(5, 5, 40);
            if ((named & 1) != 0) {
                x.nameStorm(0, 'A');
            }
            if ((named & 2) != 0) {
                x.nameStorm(1, 'B');
            }
            x.turn(1);
            char due = (named & 1) != 0 ? 'A' : (named & 2) != 0 ? 'B' : '-';
            Check.due("its name then", x.nameStorm(0, 'C'), due);
        }
    }

    // Shear

    private static Bandworld sheared(int shear, int size) {
        Bandworld x = new Bandworld();
        x.setTurning(4, 9 * shear);
        x.addStorm(5, 0, size);
        x.turn(1);
        return x;
    }

    /** Terms: "with a shear above 100": 100 is not above it. */
    private static void shearAbove100() {
        Check.due("99", sheared(99, 200).getSize(0), 200);
        Check.due("100", sheared(100, 200).getSize(0), 200);
        Check.due("101", sheared(101, 200).getSize(0), 180);
        Check.due("-100", sheared(-100, 200).getSize(0), 200);
        Check.due("-101", sheared(-101, 200).getSize(0), 180);
    }

    /** Terms: "each loses a tenth of its size, cut, but 1 at least": 10 is the least size, so its tenth is 1. */
    private static void shearTakesATenthCut() {
        int[] sizes = {11, 19, 20, 29, 30, 299, 300};
        int[] due = {10, 18, 18, 27, 27, 270, 270};
        for (int i = 0; i < due.length; i++) {
            Check.due("of " + sizes[i], sheared(101, sizes[i]).getSize(0), due[i]);
        }
    }

    /** Terms: "below 10 it is gone": 10 is not below it, 9 is. */
    private static void shearEndsBelow10() {
        Bandworld eleven = sheared(101, 11);
        Check.yes("11 becomes 10", eleven.isThere(0));
        Check.due("nothing noted", eleven.happenings(), 0);
        eleven.turn(1);
        Check.no("10 becomes 9", eleven.isThere(0));
        Check.due("that is noted", eleven.happening(0), 'd');
        Check.due("by the storm", eleven.happenedTo(0), 0);
        Check.no("10 at once", sheared(101, 10).isThere(0));
    }

    /** Terms: "by numbers, with a shear above 100 each loses": of the belts at both ends too. */
    private static void shearAtBothEnds() {
        Bandworld x = new Bandworld();
        x.addStorm(0, 0, 100);
        x.addStorm(11, 0, 100);
        x.setTurning(0, 202);
        x.setTurning(11, -202);
        x.turn(1);
        Check.due("belt 0", x.getSize(0), 90);
        Check.due("belt 11", x.getSize(1), 90);
    }

    // Splits

    private static Bandworld split(int size, int longitude) {
        Bandworld x = new Bandworld();
        x.addStorm(5, longitude, size);
        x.turn(1);
        return x;
    }

    /** Terms: "each of a size above 300 splits": 300 is not above it. */
    private static void splitAbove300() {
        Check.due("300", split(300, 0).getSize(0), 300);
        Check.due("300 alone", split(300, 0).thereShare(), 1.0f);
        Edge.refused("of 300 no other one", Edge.INDEX, y -> {
            y.addStorm(5, 0, 300);
            y.turn(1);
        }, y -> y.isThere(1));
        Check.due("301", split(301, 0).getSize(0), 201);
        Check.due("of 301", split(301, 0).getSize(1), 100);
    }

    /** Terms: "a third of it, cut, is a new storm [..] it has that much less". */
    private static void splitIsAThirdCut() {
        int[] sizes = {301, 302, 303, 399, 400};
        int[] thirds = {100, 100, 101, 133, 133};
        for (int i = 0; i < sizes.length; i++) {
            Bandworld x = split(sizes[i], 0);
            Check.due("new of " + sizes[i], x.getSize(1), thirds[i]);
            Check.due("left of " + sizes[i], x.getSize(0), sizes[i] - thirds[i]);
        }
    }

    /** Terms: "farther on by the size that it had", round the longitudes. */
    private static void splitGoesRoundTheLongitudes() {
        Check.due("3298 and 301", split(301, 3298).getLongitude(1), 3599);
        Check.due("3299 and 301", split(301, 3299).getLongitude(1), 0);
        Check.due("3599 and 400", split(400, 3599).getLongitude(1), 399);
        Check.due("it stays itself", split(400, 3599).getLongitude(0), 3599);
    }

    /** Terms: "a new storm of the age 0", without a name, in no other one. */
    private static void splitIsNew() {
        Bandworld x = new Bandworld();
        x.addStorm(5, 0, 400);
        x.nameStorm(0, 'A');
        x.turn(1);
        Check.due("its age", x.getAge(1), 0);
        Check.due("it lives in itself", x.livesIn(1), 1);
        Check.due("the name stays", x.findName('A'), 0);
        Check.due("it has none", x.nameStorm(1, 'B'), '-');
        Check.due("noted", x.happening(0), 's');
        Check.due("by the new one", x.happenedTo(0), 1);
    }

    private static Bandworld splitAmong(int some) {
        Bandworld x = new Bandworld();
        for (int storm = 0; storm < some; storm++) {
            x.addStorm(storm, 0, storm < 2 ? 10 : 301);
        }
        x.turn(1);
        return x;
    }

    /** Terms: "if there is room for another storm": with 12 none splits, with 11 the first one alone. */
    private static void splitIfThereIsRoom() {
        Bandworld full = splitAmong(12);
        Check.due("no room", full.happenings(), 0);
        for (int storm = 2; storm < 12; storm++) {
            Check.due("whole", full.getSize(storm), 301);
        }
        Bandworld eleven = splitAmong(11);
        Check.due("room for one", eleven.happenings(), 1);
        Check.due("by numbers, the lowest", eleven.getSize(2), 201);
        Check.due("the next one is whole", eleven.getSize(3), 301);
        Check.due("the last number", eleven.getSize(11), 100);
        Bandworld ten = splitAmong(10);
        Check.due("room for two", ten.happenings(), 2);
        Check.due("the second one", ten.getSize(3), 201);
        Check.due("the third one is whole", ten.getSize(4), 301);
    }

    /** Terms: "At most 12 [..], those that are gone counted": they leave no room for a split. */
    private static void splitHasNoRoomOfThoseThatAreGone() {
        Bandworld x = new Bandworld();
        x.setTurning(0, 3000);
        for (int storm = 0; storm < 11; storm++) {
            x.addStorm(0, 300 * storm, 10);
        }
        x.addStorm(8, 0, 400);
        x.turn(2);
        Check.due("one of 12 is there", x.thereShare(), 1.0f / 12.0f);
        Check.due("it is whole", x.getSize(11), 400);
    }
}
