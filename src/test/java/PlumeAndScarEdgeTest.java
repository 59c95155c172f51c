/**
 * The edges of promises 26 to 30: plumes, scars and turns. Each test says in its remark which sentence of the
 * document it holds.
 */
public final class PlumeAndScarEdgeTest {
    public static void main(String[] args) {
        Check.all(PlumeAndScarEdgeTest.class);
    }

    private static void warm(Bandworld x) {
        x.setTemperature(9, 300);
        x.setVapour(9, 0, 1000);
    }

    private static void fullAndCold(Bandworld x) {
        Edge.full(x);
        x.setTemperature(9, 100);
    }

    // Plumes

    /** Promise 26: "Throws IndexOutOfBoundsException if there is no such belt". */
    private static void burstInBelts0To11() {
        Bandworld x = new Bandworld();
        warm(x);
        Check.due("belt 0", x.burst(0, 5), 0);
        Check.due("belt 11", x.burst(11, 5), 1);
        for (int belt : Edge.beyond(0, 11)) {
            Edge.refused("belt " + belt, Edge.INDEX, PlumeAndScarEdgeTest::warm, y -> y.burst(belt, 5));
        }
    }

    /** Promise 26: "Throws IllegalArgumentException if a number is out of range"; "a longitude, 0 to 3599". */
    private static void burstAtLongitudes0To3599() {
        Bandworld x = new Bandworld();
        warm(x);
        x.burst(4, 0);
        x.burst(4, 3599);
        Check.due("longitude 0", x.getLongitude(0), 0);
        Check.due("longitude 3599", x.getLongitude(1), 3599);
        for (int longitude : Edge.beyond(0, 3599)) {
            Look.Story warm = PlumeAndScarEdgeTest::warm;
            Edge.refused("longitude " + longitude, Edge.ARGUMENT, warm, y -> y.burst(4, longitude));
        }
    }

    /** Terms: "if the level 9 is warmer than the level 0 by 200 or more"; else promise 26: "is not warm enough". */
    private static void burstBy200OrMore() {
        int[][] warmEnough = {{100, 300}, {50, 250}, {799, 999}, {50, 999}};
        for (int[] pair : warmEnough) {
            Bandworld x = new Bandworld();
            x.setTemperature(0, pair[0]);
            x.setTemperature(9, pair[1]);
            Check.due(pair[0] + " and " + pair[1], x.burst(4, 5), 0);
        }
        int[][] cold = {{100, 299}, {50, 249}, {800, 999}, {999, 50}, {300, 100}};
        for (int[] pair : cold) {
            Look.Story before = y -> {
                y.setTemperature(0, pair[0]);
                y.setTemperature(9, pair[1]);
                y.setVapour(9, 0, 1000);
            };
            Edge.refused(pair[0] + " and " + pair[1], Edge.UNSUPPORTED, before, y -> y.burst(4, 5));
        }
        Edge.refused("a new world", Edge.UNSUPPORTED, Edge::empty, y -> y.burst(4, 5));
    }

    /** Promise 26: "Throws IllegalStateException if there were 12 storms"; the 12th has room. */
    private static void burstUpTo12() {
        Bandworld x = new Bandworld();
        warm(x);
        for (int storm = 0; storm < 12; storm++) {
            Check.due("the number", x.burst(storm, 0), storm);
        }
        Edge.refused("a 13th", Edge.STATE, Edge::full, y -> y.burst(4, 5));
        Edge.refused("a 13th where one is gone", Edge.STATE, y -> {
            Edge.full(y);
            y.setTurning(0, 3000);
            y.turn(1);
        }, y -> y.burst(4, 5));
    }

    /** Terms: "the one that is documented first is thrown": promise 26. */
    private static void burstLooksAtBeltThenLongitudeThenWarmthThenRoom() {
        Edge.refused("belt 12, longitude 3600", Edge.INDEX, PlumeAndScarEdgeTest::warm, y -> y.burst(12, 3600));
        Edge.refused("belt -1, cold", Edge.INDEX, Edge::empty, y -> y.burst(-1, 5));
        Edge.refused("belt 12, no room", Edge.INDEX, Edge::full, y -> y.burst(12, 5));
        Edge.refused("longitude -1, cold", Edge.ARGUMENT, Edge::empty, y -> y.burst(4, -1));
        Edge.refused("longitude 3600, no room", Edge.ARGUMENT, Edge::full, y -> y.burst(4, 3600));
        Edge.refused("cold, no room", Edge.UNSUPPORTED, PlumeAndScarEdgeTest::fullAndCold, y -> y.burst(4, 5));
        Edge.refused("all of them", Edge.INDEX, PlumeAndScarEdgeTest::fullAndCold, y -> y.burst(12, -1));
    }

    /** Terms: "half of each vapour of the level 9, cut, goes to the level 3". */
    private static void burstLiftsHalfCut() {
        int[] amounts = {0, 1, 2, 3, 19999, 20000};
        int[] due = {0, 0, 1, 1, 9999, 10000};
        for (int vapour = 0; vapour < 3; vapour++) {
            for (int i = 0; i < due.length; i++) {
                Bandworld x = new Bandworld();
                x.setTemperature(9, 300);
                x.setVapour(9, vapour, amounts[i]);
                x.burst(4, 5);
                Check.due("up of " + amounts[i], x.getVapour(3, vapour), due[i]);
                Check.due("left of " + amounts[i], x.getVapour(9, vapour), amounts[i] - due[i]);
            }
        }
    }

    /** Terms: "and a storm of 60 is there", of the age 0, in the belt at the longitude, and without a name. */
    private static void burstMakesAStormOf60() {
        Bandworld x = new Bandworld();
        warm(x);
        x.setTurning(11, 2);
        x.burst(11, 3599);
        Check.due("its size", x.getSize(0), 60);
        Check.due("its age", x.getAge(0), 0);
        Check.due("itself", x.livesIn(0), 0);
        Check.due("its name", x.nameStorm(0, 'A'), '-');
        x.turn(1);
        Check.due("it goes on with the belt", x.getLongitude(0), 0);
    }

    /** Terms: "half of each vapour": ice stays, and no level between gets anything. */
    private static void burstLeavesIceAndOtherLevels() {
        Bandworld x = new Bandworld();
        x.setTemperature(9, 50);
        x.setVapour(9, 0, 100);
        x.turn(1);
        x.setTemperature(9, 999);
        x.burst(4, 5);
        Check.due("ice", x.getIce(9, 0), 100);
        Check.due("no ice in 3", x.getIce(3, 0), 0);
        Check.due("no vapour in 3", x.getVapour(3, 0), 0);
        x.setVapour(9, 0, 100);
        x.burst(4, 1000);
        for (int level = 0; level < 9; level++) {
            Check.due("level " + level, x.getVapour(level, 0), level == 3 ? 50 : 0);
        }
    }

    // Scars

    /** Promise 27: "Throws IndexOutOfBoundsException if there is no such belt". */
    private static void strikeInBelts0To11() {
        Bandworld x = new Bandworld();
        Check.due("belt 0", x.strike(0, 5, 50), 0);
        Check.due("belt 11", x.strike(11, 5, 50), 1);
        for (int belt : Edge.beyond(0, 11)) {
            Edge.refused("belt " + belt, Edge.INDEX, y -> y.strike(belt, 5, 50));
        }
    }

    /** Promise 27: "Throws IllegalArgumentException if a number is out of range"; "a longitude, 0 to 3599". */
    private static void strikeAtLongitudes0To3599() {
        Bandworld x = new Bandworld();
        Check.due("longitude 0", x.strike(4, 0, 50), 0);
        Check.due("longitude 3599", x.strike(4, 3599, 50), 1);
        for (int longitude : Edge.beyond(0, 3599)) {
            Edge.refused("longitude " + longitude, Edge.ARGUMENT, y -> y.strike(4, longitude, 50));
        }
    }

    /** Promise 27: "Throws IllegalArgumentException if a number is out of range"; "with a width, 1 to 100". */
    private static void strikeOfWidths1To100() {
        Bandworld x = new Bandworld();
        x.strike(4, 5, 1);
        x.strike(4, 5, 100);
        Check.due("width 1", x.getWidth(0), 1);
        Check.due("width 100", x.getWidth(1), 100);
        for (int width : Edge.beyond(1, 100)) {
            Edge.refused("width " + width, Edge.ARGUMENT, y -> y.strike(4, 5, width));
        }
    }

    /** Promise 27: "Throws IllegalStateException if there are 8"; the 8th has room. */
    private static void strikeUpTo8() {
        Bandworld x = new Bandworld();
        for (int scar = 0; scar < 8; scar++) {
            Check.due("the number", x.strike(scar, 0, 10), scar);
        }
        Edge.refused("a 9th", Edge.STATE, Edge::full, y -> y.strike(4, 5, 50));
    }

    /** Terms: "the one that is documented first is thrown": promise 27. */
    private static void strikeLooksAtBeltThenNumbersThenRoom() {
        Edge.refused("belt 12, longitude 3600", Edge.INDEX, y -> y.strike(12, 3600, 50));
        Edge.refused("belt -1, width 0", Edge.INDEX, y -> y.strike(-1, 5, 0));
        Edge.refused("belt 12, no room", Edge.INDEX, Edge::full, y -> y.strike(12, 5, 50));
        Edge.refused("longitude -1, no room", Edge.ARGUMENT, Edge::full, y -> y.strike(4, -1, 50));
        Edge.refused("width 101, no room", Edge.ARGUMENT, Edge::full, y -> y.strike(4, 5, 101));
        Edge.refused("all of them", Edge.INDEX, Edge::full, y -> y.strike(-1, 3600, 0));
    }

    /** Promise 28: "Throws IndexOutOfBoundsException if there is no such scar": none, one, or 8 of them. */
    private static void getWidthOfThoseThatAre() {
        Edge.refused("the first where there is none", Edge.INDEX, Edge::empty, y -> y.getWidth(0));
        for (int scar : Edge.beyond(0, 0)) {
            Edge.refused("of one, scar " + scar, Edge.INDEX, y -> y.strike(4, 5, 6), y -> y.getWidth(scar));
        }
        for (int scar : Edge.beyond(0, 7)) {
            Edge.refused("of 8, scar " + scar, Edge.INDEX, Edge::full, y -> y.getWidth(scar));
        }
        Bandworld x = new Bandworld();
        for (int scar = 0; scar < 8; scar++) {
            x.strike(4, 5, 10 + scar);
        }
        Check.due("the first of 8", x.getWidth(0), 10);
        Check.due("the last of 8", x.getWidth(7), 17);
    }

    /** Promise 29: "Throws IndexOutOfBoundsException if there is no such scar": none, one, or 8 of them. */
    private static void scarTurnsOfThoseThatAre() {
        Edge.refused("the first where there is none", Edge.INDEX, Edge::empty, y -> y.scarTurns(0));
        for (int scar : Edge.beyond(0, 0)) {
            Edge.refused("of one, scar " + scar, Edge.INDEX, y -> y.strike(4, 5, 6), y -> y.scarTurns(scar));
        }
        for (int scar : Edge.beyond(0, 7)) {
            Edge.refused("of 8, scar " + scar, Edge.INDEX, Edge::full, y -> y.scarTurns(scar));
        }
        Bandworld x = new Bandworld();
        for (int scar = 0; scar < 8; scar++) {
            x.strike(4, 5, 10);
            x.turn(1);
        }
        Check.due("the first of 8", x.scarTurns(0), 8);
        Check.due("the last of 8", x.scarTurns(7), 1);
    }

    private static Bandworld widened(int shear) {
        Bandworld x = new Bandworld();
        x.setTurning(4, 9 * shear);
        x.strike(5, 0, 100);
        x.turn(1);
        return x;
    }

    /** Terms: "In each turn it becomes wider by 1 and a twentieth of the shear, cut", beyond the 100 that are told. */
    private static void scarWidensByATwentiethCut() {
        int[] shears = {0, 1, 19, 20, 39, 40, -19, -20, 333};
        int[] due = {1, 1, 1, 2, 2, 3, 1, 2, 17};
        for (int i = 0; i < due.length; i++) {
            Check.due("with a shear of " + shears[i], widened(shears[i]).getWidth(0), 100 + due[i]);
        }
    }

    /** Terms: "by 1 and a twentieth of the shear": of the belts at both ends too. */
    private static void scarWidensAtBothEnds() {
        Bandworld x = new Bandworld();
        x.setTurning(0, 40);
        x.setTurning(11, 78);
        x.strike(0, 0, 1);
        x.strike(11, 0, 1);
        x.turn(1);
        Check.due("belt 0", x.getWidth(0), 3);
        Check.due("belt 11", x.getWidth(1), 3);
    }

    /** Terms: "as old as what it became wider, divided by what it would become wider in a turn now, cut". */
    private static void scarTurnsAreCut() {
        Bandworld x = new Bandworld();
        x.strike(5, 0, 100);
        Check.due("at first", x.scarTurns(0), 0);
        x.setTurning(4, 3000);
        Check.due("at first, with a shear", x.scarTurns(0), 0);
        x.setTurning(4, 0);
        x.turn(5);
        int[] shears = {0, 20, 40, 60, 80, 100, 120};
        int[] due = {5, 2, 1, 1, 1, 0, 0};
        for (int i = 0; i < due.length; i++) {
            x.setTurning(4, 9 * shears[i]);
            Check.due("5 wider with a shear of " + shears[i], x.scarTurns(0), due[i]);
        }
    }

    /** Terms: the widest scar that 512 calls can make: a strike, stirs, turns and two questions. */
    private static void scarOfTheGreatestWidth() {
        Bandworld x = new Bandworld();
        x.strike(0, 0, 1);
        for (int i = 0; i < 254; i++) {
            x.stir(1, 0, 3000);
        }
        for (int i = 0; i < 255; i++) {
            x.turn(200);
        }
        long shear = 254 * 1500 + 254 * 750;
        long wider = (1 + shear / 20) * 200 * 255;
        Check.due("its width", (long) x.getWidth(0), 1 + wider);
        Check.due("its turns", x.scarTurns(0), 51000);
    }

    // Turns

    /** Promise 30: "Throws IllegalArgumentException if a number is out of range"; "turns: 1 to 200". */
    private static void turnFrom1To200() {
        Bandworld x = new Bandworld();
        Check.due("1", x.turn(1), 1);
        Check.due("200", x.turn(200), 201);
        for (int turns : Edge.beyond(1, 200)) {
            Edge.refused("turns " + turns, Edge.ARGUMENT, y -> y.turn(turns));
        }
        Edge.refused("turns -1", Edge.ARGUMENT, y -> y.turn(-1));
    }

    /** Promise 30: "Returns how many went by in all": 200 at once are 200 turns of one. */
    private static void turnOf200IsThatOf1SoOften() {
        Bandworld atOnce = new Bandworld();
        Edge.busy(atOnce);
        Bandworld oneByOne = new Bandworld();
        Edge.busy(oneByOne);
        Check.due("at once", atOnce.turn(200), 203);
        int turns = 0;
        for (int i = 0; i < 200; i++) {
            turns = oneByOne.turn(1);
        }
        Check.due("one by one", turns, 203);
        Check.due("the sum", atOnce.checksum(), oneByOne.checksum());
        Check.due("what is noted", atOnce.happenings(), oneByOne.happenings());
    }

    /** Terms: "A turn. The column comes first, then drag, then storms, then scars." */
    private static void turnHasItsOrder() {
        Bandworld x = new Bandworld();
        x.setDrag(2);
        x.setTurning(4, 1818);
        x.setTurning(5, 20);
        x.addStorm(5, 3599, 100);
        x.strike(5, 0, 1);
        x.turn(1);
        Check.due("half of the wind blows", x.getLongitude(0), 0);
        Check.due("half of the shear, 101, tears", x.getSize(0), 90);
        Check.due("and widens by 6", x.getWidth(0), 7);
        x.turn(1);
        Check.due("a quarter of the wind is none", x.getLongitude(0), 0);
        Check.due("50 does not tear", x.getSize(0), 90);
        Check.due("a shear of 50 widens by 3", x.getWidth(0), 10);
    }

    /** Terms: "An object is used for at most 512 calls": 511 times 200 turns, with the most that the core gives. */
    private static void turnsOfThe512Calls() {
        Bandworld x = new Bandworld();
        x.setCore(9);
        int turns = 0;
        for (int i = 0; i < 510; i++) {
            turns = x.turn(200);
        }
        Check.due("in all", turns, 102000);
        Check.yes("the 512th call", x.isSound());
    }
}
