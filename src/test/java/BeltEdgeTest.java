/**
 * The edges of promises 11 to 17: belts. Each test says in its remark which sentence of the document it holds.
 */
public final class BeltEdgeTest {
    private static final int[] WIDTHS = {2, 4, 6, 8, 9, 10, 10, 9, 8, 6, 4, 2};

    public static void main(String[] args) {
        Check.all(BeltEdgeTest.class);
    }

    // Turning

    /** Promise 11: "Throws IndexOutOfBoundsException if there is no such belt"; "There are 12, from 0". */
    private static void setTurningOfBelts0To11() {
        Bandworld x = new Bandworld();
        Check.due("belt 0, 0 at first", x.setTurning(0, 11), 0);
        Check.due("belt 11, 0 at first", x.setTurning(11, 12), 0);
        Check.due("belt 0", x.getTurning(0), 11);
        Check.due("belt 11", x.getTurning(11), 12);
        for (int belt : Edge.beyond(0, 11)) {
            Edge.refused("belt " + belt, Edge.INDEX, y -> y.setTurning(belt, 100));
        }
    }

    /** Promise 11: "Throws IllegalArgumentException if a number is out of range"; "-3000 to 3000 as it is told". */
    private static void setTurningFromMinus3000To3000() {
        Bandworld x = new Bandworld();
        Check.due("-3000", x.setTurning(5, -3000), 0);
        Check.due("3000 behind -3000", x.setTurning(5, 3000), -3000);
        Check.due("then", x.getTurning(5), 3000);
        for (int turning : Edge.beyond(-3000, 3000)) {
            Edge.refused("turning " + turning, Edge.ARGUMENT, y -> y.setTurning(5, turning));
        }
    }

    /** Terms: "the one that is documented first is thrown": promise 11. */
    private static void setTurningLooksAtTheBeltFirst() {
        Edge.refused("belt 12 with 3001", Edge.INDEX, y -> y.setTurning(12, 3001));
        Edge.refused("belt -1 with -3001", Edge.INDEX, y -> y.setTurning(-1, -3001));
    }

    /** Terms: "-3000 to 3000 as it is told": stirred it may become more, on either side. */
    private static void turningGoesBeyond3000ByStirring() {
        Bandworld x = new Bandworld();
        x.setTurning(5, -3000);
        x.setTurning(6, 3000);
        Check.due("beyond 3000", x.stir(5, 6, 1), 3001);
        Check.due("below -3000", x.getTurning(5), -3001);
        Check.due("as the one before", x.setTurning(6, 0), 3001);
        Check.due("as the one before, below", x.setTurning(5, 0), -3001);
        Check.yes("sound", x.isSound());
    }

    /** Promise 12: "Throws IndexOutOfBoundsException if there is no such belt". */
    private static void getTurningOfBelts0To11() {
        Check.due("belt 0, 0 at first", new Bandworld().getTurning(0), 0);
        Check.due("belt 11, 0 at first", new Bandworld().getTurning(11), 0);
        for (int belt : Edge.beyond(0, 11)) {
            Edge.refused("belt " + belt, Edge.INDEX, y -> y.getTurning(belt));
        }
    }

    // Winds and shears

    /** Promise 13: "Throws IndexOutOfBoundsException if there is no such belt". */
    private static void getWindOfBelts0To11() {
        for (int belt : Edge.beyond(0, 11)) {
            Edge.refused("belt " + belt, Edge.INDEX, y -> y.getWind(belt));
        }
    }

    /** Terms: "the widths 2, 4, 6, 8, 9, 10, 10, 9, 8, 6, 4 and 2"; "its wind is that divided by the width, cut". */
    private static void windIsCutTowardsNothing() {
        for (int belt = 0; belt < 12; belt++) {
            int width = WIDTHS[belt];
            int[] turnings = {0, width - 1, width, 2 * width - 1, 2 * width};
            int[] due = {0, 0, 1, 1, 2};
            Bandworld x = new Bandworld();
            for (int i = 0; i < due.length; i++) {
                x.setTurning(belt, turnings[i]);
                Check.due("belt " + belt + " with " + turnings[i], x.getWind(belt), due[i]);
                x.setTurning(belt, -turnings[i]);
                Check.due("belt " + belt + " with less " + turnings[i], x.getWind(belt), -due[i]);
            }
        }
    }

    /** Promise 14: "Throws IndexOutOfBoundsException if there is no such belt". */
    private static void getShearOfBelts0To11() {
        for (int belt : Edge.beyond(0, 11)) {
            Edge.refused("belt " + belt, Edge.INDEX, y -> y.getShear(belt));
        }
    }

    /** Terms: "The shear of a belt is how far the winds of its two neighbours are apart", whichever is greater. */
    private static void shearIsOfBothNeighbours() {
        Bandworld x = new Bandworld();
        x.setTurning(4, 90);
        x.setTurning(5, 3000);
        x.setTurning(6, -70);
        Check.due("10 and -7, whatever is between", x.getShear(5), 17);
        x.setTurning(4, -90);
        x.setTurning(6, 70);
        Check.due("-10 and 7", x.getShear(5), 17);
        x.setTurning(4, 63);
        Check.due("7 and 7", x.getShear(5), 0);
    }

    /** Terms: "the belt itself in place of one that is not there": at both ends. */
    private static void shearAtBothEnds() {
        Bandworld x = new Bandworld();
        x.setTurning(0, 20);
        x.setTurning(1, 12);
        x.setTurning(2, 600);
        Check.due("10 and 3", x.getShear(0), 7);
        x.setTurning(11, -20);
        x.setTurning(10, 12);
        x.setTurning(9, 600);
        Check.due("3 and -10", x.getShear(11), 13);
        Check.due("the next one has both", x.getShear(1), 90);
        Check.due("on the other side too", x.getShear(10), 110);
    }

    // Stirring

    /** Promise 15: "Throws IndexOutOfBoundsException if there is no such belt, for either". */
    private static void stirOfBelts0To11() {
        Bandworld x = new Bandworld();
        Check.due("from the first", x.stir(0, 1, 5), 5);
        Check.due("to the first", x.stir(1, 0, 5), 0);
        Check.due("from the last", x.stir(11, 10, 6), 6);
        Check.due("to the last", x.stir(10, 11, 6), 0);
        for (int belt : Edge.beyond(0, 11)) {
            Edge.refused("from " + belt, Edge.INDEX, y -> y.stir(belt, 5, 10));
            Edge.refused("to " + belt, Edge.INDEX, y -> y.stir(5, belt, 10));
        }
        Edge.refused("from -1 to 0", Edge.INDEX, y -> y.stir(-1, 0, 10));
        Edge.refused("from 0 to -1", Edge.INDEX, y -> y.stir(0, -1, 10));
        Edge.refused("from 12 to 11", Edge.INDEX, y -> y.stir(12, 11, 10));
        Edge.refused("from 11 to 12", Edge.INDEX, y -> y.stir(11, 12, 10));
    }

    /** Promise 15: "Throws IllegalArgumentException if both are no neighbours": nor is a belt one of itself. */
    private static void stirOfNeighboursAlone() {
        Edge.refused("3 and 5", Edge.ARGUMENT, y -> y.stir(3, 5, 10));
        Edge.refused("5 and 3", Edge.ARGUMENT, y -> y.stir(5, 3, 10));
        Edge.refused("5 and 5", Edge.ARGUMENT, y -> y.stir(5, 5, 10));
    }

    /** Promise 15: the belts do not go round: those at both ends are no neighbours. */
    private static void stirDoesNotGoRoundThePoles() {
        Edge.refused("0 and 11", Edge.ARGUMENT, y -> y.stir(0, 11, 10));
        Edge.refused("11 and 0", Edge.ARGUMENT, y -> y.stir(11, 0, 10));
    }

    /** Promise 15: "Throws IllegalArgumentException if [..] a number is out of range"; "turning: 1 to 3000". */
    private static void stirFrom1To3000() {
        Bandworld x = new Bandworld();
        Check.due("1", x.stir(4, 5, 1), 1);
        Check.due("3000", x.stir(4, 5, 3000), 3001);
        Check.due("lost", x.getTurning(4), -3001);
        for (int turning : Edge.beyond(1, 3000)) {
            Edge.refused("turning " + turning, Edge.ARGUMENT, y -> y.stir(4, 5, turning));
        }
        Edge.refused("turning -1", Edge.ARGUMENT, y -> y.stir(4, 5, -1));
    }

    /** Terms: "the one that is documented first is thrown": promise 15. */
    private static void stirLooksAtBothBeltsFirst() {
        Edge.refused("to 12, no neighbour", Edge.INDEX, y -> y.stir(0, 12, 10));
        Edge.refused("from -1, no neighbour", Edge.INDEX, y -> y.stir(-1, 11, 10));
        Edge.refused("from -1 with 0", Edge.INDEX, y -> y.stir(-1, 0, 0));
        Edge.refused("to 12 with 3001", Edge.INDEX, y -> y.stir(11, 12, 3001));
        Edge.refused("12 and 12 with 0", Edge.INDEX, y -> y.stir(12, 12, 0));
    }

    // Drag and the deep

    /** Promise 16: "Throws IllegalArgumentException if a number is out of range"; "a drag, 0 to 50, 0 at first". */
    private static void setDragFrom0To50() {
        Bandworld x = new Bandworld();
        Check.due("0 at first", x.setDrag(50), 0);
        Check.due("50", x.setDrag(0), 50);
        Check.due("0", x.setDrag(0), 0);
        for (int drag : Edge.beyond(0, 50)) {
            Edge.refused("drag " + drag, Edge.ARGUMENT, y -> y.setDrag(drag));
        }
    }

    /** Terms: "without one nothing": with a drag of 0 no turning is lost. */
    private static void noDragTakesNothing() {
        Bandworld x = new Bandworld();
        x.setTurning(5, 3000);
        x.turn(200);
        Check.due("all is left", x.getTurning(5), 3000);
        Check.due("the deep", x.getDeep(), 0);
    }

    /** Terms: "With a drag, 0 to 50": the least one takes all, of each belt. */
    private static void dragOf1TakesAll() {
        Bandworld x = new Bandworld();
        x.setDrag(1);
        for (int belt = 0; belt < 12; belt++) {
            x.setTurning(belt, 3000 - belt);
        }
        x.turn(1);
        for (int belt = 0; belt < 12; belt++) {
            Check.due("belt " + belt, x.getTurning(belt), 0);
        }
        Check.due("the deep", x.getDeep(), 12 * 3000 - 66);
        Check.yes("sound", x.isSound());
    }

    /** Terms: "each belt loses its turning divided by the drag, cut": also of what is less than nothing. */
    private static void dragIsCutTowardsNothing() {
        int[] turnings = {49, 50, 99, 100, -49, -50, -99, -100, 0};
        int[] due = {0, 1, 1, 2, 0, -1, -1, -2, 0};
        for (int i = 0; i < due.length; i++) {
            Bandworld x = new Bandworld();
            x.setDrag(50);
            x.setTurning(5, turnings[i]);
            x.turn(1);
            Check.due("left of " + turnings[i], x.getTurning(5), turnings[i] - due[i]);
            Check.due("the deep of " + turnings[i], x.getDeep(), due[i]);
        }
    }

    /** Promise 17: "Returns how much turning the deep got": 0 at first, and it may be less than nothing. */
    private static void deepFromNothing() {
        Bandworld x = new Bandworld();
        Check.due("at first", x.getDeep(), 0);
        x.setDrag(2);
        x.setTurning(0, 1);
        x.turn(1);
        Check.due("half of 1, cut", x.getDeep(), 0);
        x.setTurning(11, -3000);
        x.turn(2);
        Check.due("-1500 and -750", x.getDeep(), -2250);
    }
}
