/** Promises 36 to 39: frames and drifts. */
public final class FrameTest {
    public static void main(String[] args) {
        taking();
        seeing();
        places();
        drifts();
        driftsRound();
        driftsOfLoadedWorlds();
        refused();
        Check.end();
    }

    private static void taking() {
        Bandworld x = new Bandworld();
        Check.argument("longitude -1", x, () -> x.frame(-1));
        Check.argument("longitude 3600", x, () -> x.frame(3600));
        Check.due("frame(0)", x.frame(0), 0);
        Check.due("frame(3599)", x.frame(3599), 1);
        for (int frame = 2; frame < 6; frame++) {
            Check.due("frame " + frame, x.frame(5), frame);
        }
        Check.state("a 7th", x, () -> x.frame(0));
        Check.argument("number before room", x, () -> x.frame(3600));
        Check.due("it is empty", x.countSeen(5), 0);
    }

    private static int seenFrom(int longitude, int storm) {
        Bandworld x = new Bandworld();
        x.addStorm(5, storm, 10);
        return x.countSeen(x.frame(longitude));
    }

    private static void seeing() {
        Check.due("900 ahead", seenFrom(1000, 1900), 1);
        Check.due("901 ahead", seenFrom(1000, 1901), 0);
        Check.due("900 behind", seenFrom(1000, 100), 1);
        Check.due("901 behind", seenFrom(1000, 99), 0);
        Check.due("900 round", seenFrom(3000, 300), 1);
        Check.due("901 round", seenFrom(3000, 301), 0);
        Check.due("900 round behind", seenFrom(300, 3000), 1);
        Check.due("901 round behind", seenFrom(300, 2999), 0);

        Bandworld x = new Bandworld();
        x.addStorm(0, 0, 10);
        x.addStorm(1, 0, 60);
        x.addStorm(1, 0, 50);
        x.addStorm(9, 0, 50);
        x.addStorm(9, 1800, 50);
        Check.due("four of five", x.countSeen(x.frame(0)), 4);
        x.turn(1);
        Check.due("one went into another", x.countSeen(x.frame(0)), 3);
        Check.due("the first frame is as it was", x.countSeen(0), 4);
    }

    private static void places() {
        Bandworld x = new Bandworld();
        x.setTurning(5, 500);
        x.addStorm(5, 100, 10);
        x.addStorm(9, 1500, 10);
        x.nameStorm(0, 'A');
        x.nameStorm(1, 'B');
        x.frame(0);
        x.turn(1);
        x.nameStorm(0, 'C');
        Check.due("as it was then", x.placeIn(0, 'A'), 100);
        Check.none("the name came later", x, () -> x.placeIn(0, 'C'));
        Check.none("it is too far", x, () -> x.placeIn(0, 'B'));
        x.frame(1000);
        Check.due("now by its name", x.placeIn(1, 'C'), 150);
        Check.due("not too far", x.placeIn(1, 'B'), 1500);
        Check.none("no more by that name", x, () -> x.placeIn(1, 'A'));
    }

    private static void drifts() {
        Bandworld x = new Bandworld();
        x.setTurning(5, 100);
        x.setTurning(8, -56);
        x.addStorm(5, 3590, 10);
        x.addStorm(8, 3, 10);
        x.nameStorm(0, 'A');
        x.nameStorm(1, 'B');
        x.frame(0);
        Check.none("the same one", x, () -> x.drift('A', 0, 0));
        x.frame(0);
        Check.none("no turn is between", x, () -> x.drift('A', 0, 1));
        x.turn(3);
        x.frame(0);
        Check.due("onwards", x.drift('A', 0, 2), 10.0f);
        Check.due("whichever is told first", x.drift('A', 2, 0), 10.0f);
        Check.due("backwards", x.drift('B', 1, 2), -7.0f);
        Check.none("none has it", x, () -> x.drift('C', 0, 2));
        x.stir(5, 4, 90);
        x.turn(1);
        x.frame(1800);
        Check.none("one does not have it", x, () -> x.drift('A', 0, 3));
        x.frame(0);
        x.nameStorm(1, 'D');
        Check.due("31 in 4 turns", x.drift('A', 0, 4), 7.75f);
        Check.due("1 in 1 turn", x.drift('A', 4, 2), 1.0f);
        x.turn(2);
        x.frame(0);
        Check.due("33 in 6 turns", x.drift('A', 0, 5), 5.5f);
        Check.none("the name came later", x, () -> x.drift('D', 0, 5));
    }

    /** The drift in a turn of a storm that goes on by some, seen from its places. */
    private static float driftBy(int start, int way) {
        Bandworld x = new Bandworld();
        x.addStorm(0, start, 400);
        x.nameStorm(0, 'W');
        x.frame(start);
        for (int i = 0; i < Math.abs(way) * 2 / 3000; i++) {
            if (way > 0) {
                x.stir(1, 0, 3000);
            } else {
                x.stir(0, 1, 3000);
            }
        }
        if (way > 0) {
            x.stir(1, 0, Math.max(1, Math.abs(way) * 2 % 3000));
        } else {
            x.stir(0, 1, Math.max(1, Math.abs(way) * 2 % 3000));
        }
        x.turn(1);
        x.frame(x.getLongitude(0));
        Check.due("both orders", x.drift('W', 1, 0), x.drift('W', 0, 1));
        return x.drift('W', 0, 1);
    }

    private static void driftsRound() {
        Check.due("1799 onwards", driftBy(0, 1799), 1799.0f);
        Check.due("1800 onwards is 1800 back", driftBy(0, 1800), -1800.0f);
        Check.due("1801 onwards is 1799 back", driftBy(0, 1801), -1799.0f);
        Check.due("1800 back", driftBy(0, -1800), -1800.0f);
        Check.due("1801 back is 1799 onwards", driftBy(0, -1801), 1799.0f);
        Check.due("1799 onwards from 3000", driftBy(3000, 1799), 1799.0f);
        Check.due("1800 onwards from 3000", driftBy(3000, 1800), -1800.0f);
        Check.due("to the longitude 0", driftBy(3000, 600), 600.0f);
        Check.due("back to the longitude 0", driftBy(7, -7), -7.0f);
        Check.due("1800 back from 3000", driftBy(3000, -1800), -1800.0f);
    }

    private static void driftsOfLoadedWorlds() {
        Bandworld x = new Bandworld();
        x.setTurning(5, 100);
        x.addStorm(5, 100, 10);
        x.nameStorm(0, 'A');
        x.save();
        x.turn(4);
        x.frame(0);
        x.load(0);
        x.frame(0);
        Check.due("frames stay when a world is loaded", x.countSeen(0), 1);
        Check.due("the earlier one is that of the earlier turn", x.drift('A', 0, 1), 10.0f);
        x.turn(4);
        x.frame(0);
        Check.none("both of the turn 4", x, () -> x.drift('A', 0, 2));
    }

    private static void refused() {
        Bandworld x = new Bandworld();
        x.frame(0);
        x.turn(1);
        x.frame(0);
        for (int bad : new int[] {-1, 2, 6, Integer.MIN_VALUE, Integer.MAX_VALUE}) {
            Check.index("countSeen", x, () -> x.countSeen(bad));
            Check.index("placeIn", x, () -> x.placeIn(bad, 'A'));
            Check.index("placeIn: frame before name", x, () -> x.placeIn(bad, 'a'));
            Check.index("drift", x, () -> x.drift('A', bad, 0));
            Check.index("drift, other", x, () -> x.drift('A', 0, bad));
            Check.index("drift: frame before name", x, () -> x.drift('a', 0, bad));
        }
        for (char bad : new char[] {'@', '[', 'a', '-', 0, '\uffff'}) {
            Check.argument("placeIn", x, () -> x.placeIn(0, bad));
            Check.argument("drift", x, () -> x.drift(bad, 0, 1));
            Check.argument("drift: name before turns", x, () -> x.drift(bad, 0, 0));
        }
        x.addStorm(5, 0, 10);
        x.frame(0);
        Check.argument("a storm without a name has none", x, () -> x.placeIn(2, '-'));
        Check.none("nor another one", x, () -> x.placeIn(2, 'A'));
    }
}
