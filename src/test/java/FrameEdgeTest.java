/**
 * The edges of promises 36 to 39: frames. Each test says in its remark which sentence of the document it holds.
 */
public final class FrameEdgeTest {
    public static void main(String[] args) {
        Check.all(FrameEdgeTest.class);
    }

    /** 'A' goes on by 10 in a turn; frames 0 and 1 are of the first turn, 2 is of the second one, 3 has no storm. */
    private static void fourFrames(Bandworld x) {
        x.setTurning(5, 100);
        x.addStorm(5, 100, 50);
        x.addStorm(8, 100, 50);
        x.nameStorm(0, 'A');
        x.frame(0);
        x.frame(100);
        x.turn(1);
        x.frame(0);
        x.frame(1900);
    }

    // Taking frames

    /** Promise 36: "Throws IllegalArgumentException if a number is out of range"; "a longitude, 0 to 3599". */
    private static void frameAtLongitudes0To3599() {
        Bandworld x = new Bandworld();
        Check.due("longitude 0", x.frame(0), 0);
        Check.due("longitude 3599", x.frame(3599), 1);
        for (int longitude : Edge.beyond(0, 3599)) {
            Edge.refused("longitude " + longitude, Edge.ARGUMENT, y -> y.frame(longitude));
        }
    }

    /** Promise 36: "Throws IllegalStateException if there are 6"; the 6th has room. */
    private static void frameUpTo6() {
        Bandworld x = new Bandworld();
        for (int frame = 0; frame < 6; frame++) {
            Check.due("the number", x.frame(600 * frame), frame);
        }
        Edge.refused("a 7th", Edge.STATE, Edge::full, y -> y.frame(5));
    }

    /** Terms: "the one that is documented first is thrown": promise 36. */
    private static void frameLooksAtTheLongitudeFirst() {
        Edge.refused("longitude -1, no room", Edge.ARGUMENT, Edge::full, y -> y.frame(-1));
        Edge.refused("longitude 3600, no room", Edge.ARGUMENT, Edge::full, y -> y.frame(3600));
    }

    private static boolean isSeen(int longitude, int storm) {
        Bandworld x = new Bandworld();
        x.addStorm(5, storm, 10);
        x.nameStorm(0, 'A');
        x.frame(longitude);
        boolean isPlaced = Look.answer(x, y -> y.placeIn(0, 'A')).equals(String.valueOf(storm));
        Check.due("counted and placed alike", x.countSeen(0), isPlaced ? 1 : 0);
        return isPlaced;
    }

    /** Terms: "not farther from that than 900": 900 is not farther, ahead and behind. */
    private static void frameSeesAsFarAs900() {
        Check.yes("at it", isSeen(1800, 1800));
        Check.yes("899 ahead", isSeen(1800, 2699));
        Check.yes("900 ahead", isSeen(1800, 2700));
        Check.no("901 ahead", isSeen(1800, 2701));
        Check.yes("899 behind", isSeen(1800, 901));
        Check.yes("900 behind", isSeen(1800, 900));
        Check.no("901 behind", isSeen(1800, 899));
    }

    /** Terms: "not farther from that than 900, round the longitudes". */
    private static void frameSeesRoundTheLongitudes() {
        Check.yes("900 ahead of 3599", isSeen(3599, 899));
        Check.no("901 ahead of 3599", isSeen(3599, 900));
        Check.yes("900 behind 0", isSeen(0, 2700));
        Check.no("901 behind 0", isSeen(0, 2699));
        Check.yes("0 from 3599", isSeen(3599, 0));
        Check.yes("3599 from 0", isSeen(0, 3599));
        Check.no("opposite", isSeen(0, 1800));
    }

    /** Terms: "the storms that are there [..] as they are then": what comes later changes no frame. */
    private static void frameStaysAsItWas() {
        Bandworld x = new Bandworld();
        fourFrames(x);
        x.nameStorm(0, 'B');
        x.turn(1);
        x.setTurning(5, 3000);
        x.setTurning(4, -3000);
        x.turn(50);
        Check.no("it is gone", x.isThere(0));
        Check.due("its place in the frame 0", x.placeIn(0, 'A'), 100);
        Check.due("its place in the frame 2", x.placeIn(2, 'A'), 110);
        Check.due("how many are in the frame 0", x.countSeen(0), 2);
    }

    // What frames tell

    /** Promise 37: "Throws IndexOutOfBoundsException if there is no such frame": none, four, or 6 of them. */
    private static void countSeenOfThoseThatAre() {
        Edge.refused("the first where there is none", Edge.INDEX, Edge::empty, y -> y.countSeen(0));
        for (int frame : Edge.beyond(0, 3)) {
            Edge.refused("of 4, frame " + frame, Edge.INDEX, FrameEdgeTest::fourFrames, y -> y.countSeen(frame));
        }
        for (int frame : Edge.beyond(0, 5)) {
            Edge.refused("of 6, frame " + frame, Edge.INDEX, Edge::full, y -> y.countSeen(frame));
        }
    }

    /** Promise 37: "Returns how many storms a frame has": from none to 12. */
    private static void countSeenFromNoneTo12() {
        Bandworld x = new Bandworld();
        Check.due("no storm", x.countSeen(x.frame(0)), 0);
        for (int storm = 0; storm < 12; storm++) {
            x.addStorm(storm, 900, 10);
        }
        Check.due("12 of 12", x.countSeen(x.frame(0)), 12);
        Check.due("none of 12", x.countSeen(x.frame(3599)), 0);
        x.nameStorm(11, 'L');
        Check.due("the last of 12 is placed", x.placeIn(x.frame(1800), 'L'), 900);
        x.setTurning(0, 3000);
        x.turn(1);
        // The shear tears those of the belts 0 and 1.
        Check.due("10 of 12", x.countSeen(x.frame(900)), 10);
    }

    /** Promise 38: "Throws IndexOutOfBoundsException if there is no such frame": none, four, or 6 of them. */
    private static void placeInOfThoseThatAre() {
        Edge.refused("the first where there is none", Edge.INDEX, Edge::empty, y -> y.placeIn(0, 'A'));
        for (int frame : Edge.beyond(0, 3)) {
            Edge.refused("of 4, frame " + frame, Edge.INDEX, FrameEdgeTest::fourFrames, y -> y.placeIn(frame, 'A'));
        }
        for (int frame : Edge.beyond(0, 5)) {
            Edge.refused("of 6, frame " + frame, Edge.INDEX, Edge::full, y -> y.placeIn(frame, 'A'));
        }
        Bandworld x = new Bandworld();
        Edge.full(x);
        Check.due("the first of 6", x.placeIn(0, 'A'), x.getLongitude(0));
        Check.due("the last of 6", x.placeIn(5, 'B'), x.getLongitude(11));
    }

    /** Promise 38: "Throws IllegalArgumentException if there is no such name", though a storm has none, told as '-'. */
    private static void placeInFromAToZ() {
        for (char name : Edge.NO_NAMES) {
            Edge.refused("name " + (int) name, Edge.ARGUMENT, FrameEdgeTest::fourFrames, y -> y.placeIn(0, name));
        }
        Bandworld x = new Bandworld();
        x.addStorm(5, 3599, 10);
        x.nameStorm(0, 'Z');
        Check.due("'Z' at 3599", x.placeIn(x.frame(0), 'Z'), 3599);
        Bandworld y = new Bandworld();
        y.addStorm(5, 0, 10);
        y.nameStorm(0, 'A');
        Check.due("'A' at 0", y.placeIn(y.frame(0), 'A'), 0);
    }

    /** Promise 38: "Throws NoSuchElementException if it does not have it". */
    private static void placeInWithoutIt() {
        Edge.refused("another name", Edge.NONE, FrameEdgeTest::fourFrames, y -> y.placeIn(0, 'B'));
        Edge.refused("too far", Edge.NONE, FrameEdgeTest::fourFrames, y -> y.placeIn(3, 'A'));
        Edge.refused("no storm", Edge.NONE, y -> y.frame(0), y -> y.placeIn(0, 'A'));
        Edge.refused("it came later", Edge.NONE, y -> {
            fourFrames(y);
            y.nameStorm(1, 'C');
        }, y -> y.placeIn(0, 'C'));
        Edge.refused("it is gone", Edge.NONE, y -> {
            y.addStorm(0, 0, 10);
            y.nameStorm(0, 'A');
            y.setTurning(0, 3000);
            y.turn(1);
            y.frame(1500);
        }, y -> y.placeIn(0, 'A'));
    }

    /** Terms: "the one that is documented first is thrown": promise 38. */
    private static void placeInLooksAtFrameThenNameThenPlace() {
        Edge.refused("frame 4, 'a'", Edge.INDEX, FrameEdgeTest::fourFrames, y -> y.placeIn(4, 'a'));
        Edge.refused("frame -1, a name it has not", Edge.INDEX, FrameEdgeTest::fourFrames, y -> y.placeIn(-1, 'B'));
        Edge.refused("'@', which it has not", Edge.ARGUMENT, FrameEdgeTest::fourFrames, y -> y.placeIn(3, '@'));
    }

    // Drifts

    /** Promise 39: "Throws IndexOutOfBoundsException if there is no such frame, for either". */
    private static void driftOfFramesThatAre() {
        Edge.refused("the first where there is none", Edge.INDEX, Edge::empty, y -> y.drift('A', 0, 0));
        for (int frame : Edge.beyond(0, 3)) {
            Look.Story four = FrameEdgeTest::fourFrames;
            Edge.refused("of 4, " + frame + " and 0", Edge.INDEX, four, y -> y.drift('A', frame, 0));
            Edge.refused("of 4, 0 and " + frame, Edge.INDEX, four, y -> y.drift('A', 0, frame));
        }
        for (int frame : Edge.beyond(0, 5)) {
            Edge.refused("of 6, " + frame + " and 0", Edge.INDEX, Edge::full, y -> y.drift('A', frame, 0));
            Edge.refused("of 6, 0 and " + frame, Edge.INDEX, Edge::full, y -> y.drift('A', 0, frame));
        }
        Bandworld x = new Bandworld();
        x.addStorm(5, 100, 10);
        x.nameStorm(0, 'A');
        x.setTurning(5, 10);
        for (int frame = 0; frame < 6; frame++) {
            x.frame(0);
            x.turn(1);
        }
        Check.due("the first and the last of 6", x.drift('A', 0, 5), 1.0f);
        Check.due("the last and the first of 6", x.drift('A', 5, 0), 1.0f);
    }

    /** Promise 39: "Throws IllegalArgumentException if there is no such name". */
    private static void driftFromAToZ() {
        for (char name : Edge.NO_NAMES) {
            Edge.refused("name " + (int) name, Edge.ARGUMENT, FrameEdgeTest::fourFrames, y -> y.drift(name, 0, 2));
        }
        Bandworld x = new Bandworld();
        fourFrames(x);
        Check.due("'A'", x.drift('A', 0, 2), 10.0f);
    }

    /** Promise 39: "Throws NoSuchElementException if one does not have it": the one, the other, or both. */
    private static void driftWithoutIt() {
        Edge.refused("the later one", Edge.NONE, FrameEdgeTest::fourFrames, y -> y.drift('A', 0, 3));
        Edge.refused("the later one, told first", Edge.NONE, FrameEdgeTest::fourFrames, y -> y.drift('A', 3, 0));
        Edge.refused("both", Edge.NONE, FrameEdgeTest::fourFrames, y -> y.drift('B', 0, 2));
        Look.Story laterNear = y -> {
            y.setTurning(5, 100);
            y.addStorm(5, 905, 50);
            y.nameStorm(0, 'A');
            y.frame(0);
            y.turn(1);
            y.frame(100);
        };
        Edge.refused("the earlier one", Edge.NONE, laterNear, y -> y.drift('A', 0, 1));
        Edge.refused("the earlier one, told last", Edge.NONE, laterNear, y -> y.drift('A', 1, 0));
    }

    /** Promise 39: "another one, or the same [..] Throws NoSuchElementException if [..] no turn is between them". */
    private static void driftWithoutATurn() {
        Edge.refused("the same", Edge.NONE, FrameEdgeTest::fourFrames, y -> y.drift('A', 0, 0));
        Edge.refused("the same, with a turn behind", Edge.NONE, FrameEdgeTest::fourFrames, y -> y.drift('A', 2, 2));
        Edge.refused("of one turn", Edge.NONE, FrameEdgeTest::fourFrames, y -> y.drift('A', 0, 1));
        Edge.refused("of one turn, told backwards", Edge.NONE, FrameEdgeTest::fourFrames, y -> y.drift('A', 1, 0));
    }

    /** Terms: "the one that is documented first is thrown": promise 39. */
    private static void driftLooksAtFramesThenNameThenPlaces() {
        Edge.refused("frame 4, 'a'", Edge.INDEX, FrameEdgeTest::fourFrames, y -> y.drift('a', 4, 0));
        Edge.refused("other -1, 'a'", Edge.INDEX, FrameEdgeTest::fourFrames, y -> y.drift('a', 0, -1));
        Edge.refused("other 4, a name it has not", Edge.INDEX, FrameEdgeTest::fourFrames, y -> y.drift('B', 0, 4));
        Edge.refused("'@', no turn", Edge.ARGUMENT, FrameEdgeTest::fourFrames, y -> y.drift('@', 0, 1));
        Edge.refused("'[', too far", Edge.ARGUMENT, FrameEdgeTest::fourFrames, y -> y.drift('[', 0, 3));
    }

    /** Terms: "from the earlier frame to the later one": whichever is told first. */
    private static void driftIsFromTheEarlierFrame() {
        Bandworld x = new Bandworld();
        fourFrames(x);
        Check.due("0 and 2", x.drift('A', 0, 2), 10.0f);
        Check.due("2 and 0", x.drift('A', 2, 0), 10.0f);
        Check.due("1 and 2", x.drift('A', 1, 2), 10.0f);
    }

    /** Terms: "from the earlier frame to the later one": by their turns, where a world was loaded between them. */
    private static void driftIsFromTheEarlierFrameThoughTakenLater() {
        Bandworld x = new Bandworld();
        x.setTurning(5, 100);
        x.addStorm(5, 3595, 50);
        x.nameStorm(0, 'A');
        x.save();
        x.turn(2);
        x.frame(0);
        x.load(0);
        x.frame(0);
        Check.due("20 in 2 turns", x.drift('A', 0, 1), 10.0f);
        Check.due("told backwards", x.drift('A', 1, 0), 10.0f);
        x.turn(2);
        x.frame(0);
        String sameTurn = Look.answer(x, y -> y.drift('A', 0, 2));
        Check.due("no turn is between two of one turn", sameTurn, "NoSuchElementException");
    }

    /** The drift of a storm that goes on by some in each of two turns. */
    private static float driftBy(int start, int first, int second) {
        Bandworld x = new Bandworld();
        x.addStorm(0, start, 400);
        x.nameStorm(0, 'A');
        x.frame(start);
        x.setTurning(0, 2 * first);
        x.turn(1);
        x.setTurning(0, 2 * second);
        x.turn(1);
        x.frame(x.getLongitude(0));
        Check.due("told backwards", x.drift('A', 1, 0), x.drift('A', 0, 1));
        return x.drift('A', 0, 1);
    }

    /** Terms: "how far it went on [..], taken as from -1800 to 1799": at both ends of that. */
    private static void driftIsTakenFromMinus1800To1799() {
        Check.due("1798 in 2 turns", driftBy(0, 899, 899), 899.0f);
        Check.due("1799 in 2 turns", driftBy(0, 900, 899), 899.5f);
        Check.due("1800 in 2 turns", driftBy(0, 900, 900), -900.0f);
        Check.due("1801 in 2 turns", driftBy(0, 901, 900), -899.5f);
        Check.due("-1799 in 2 turns", driftBy(0, -900, -899), -899.5f);
        Check.due("-1800 in 2 turns", driftBy(0, -900, -900), -900.0f);
        Check.due("-1801 in 2 turns", driftBy(0, -901, -900), 899.5f);
        Check.due("nothing", driftBy(0, 0, 0), 0.0f);
    }

    /** Terms: "taken as from -1800 to 1799", where the longitudes go round between. */
    private static void driftGoesRoundTheLongitudes() {
        Check.due("from 3599 to 0", driftBy(3599, 0, 1), 0.5f);
        Check.due("from 0 to 3599", driftBy(0, 0, -1), -0.5f);
        Check.due("1799 from 3599", driftBy(3599, 900, 899), 899.5f);
        Check.due("1800 from 3599", driftBy(3599, 900, 900), -900.0f);
        Check.due("-1800 from 1799", driftBy(1799, -900, -900), -900.0f);
        Check.due("-1801 from 1799", driftBy(1799, -901, -900), 899.5f);
        Check.due("2999 on", driftBy(10, 1499, 1500), -300.5f);
    }

    /** Terms: "divided by the turns between, as a float": what is no whole number is not cut. */
    private static void driftIsAFloat() {
        Bandworld x = new Bandworld();
        x.addStorm(5, 0, 50);
        x.nameStorm(0, 'A');
        x.frame(0);
        x.setTurning(5, 10);
        x.turn(1);
        x.setTurning(5, 0);
        x.turn(2);
        x.frame(0);
        Check.due("1 in 3 turns", x.drift('A', 0, 1), 1.0f / 3.0f);
        x.turn(200);
        x.frame(0);
        Check.due("1 in 203 turns", x.drift('A', 0, 2), 1.0f / 203.0f);
        Check.due("nothing in 200 turns", x.drift('A', 1, 2), 0.0f);
    }
}
