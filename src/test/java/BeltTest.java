/** Promises 11 to 17: turning, wind, shear, stirring, drag and the deep. */
public final class BeltTest {
    private static final int[] WIDTHS = {2, 4, 6, 8, 9, 10, 10, 9, 8, 6, 4, 2};

    public static void main(String[] args) {
        turning();
        wind();
        shear();
        stirring();
        drag();
        Check.end();
    }

    private static void turning() {
        Bandworld x = new Bandworld();
        Check.due("setTurning(0, 3000)", x.setTurning(0, 3000), 0);
        Check.due("setTurning(0, -3000)", x.setTurning(0, -3000), 3000);
        Check.due("getTurning(0)", x.getTurning(0), -3000);
        Check.due("getTurning(1)", x.getTurning(1), 0);
        Check.due("setTurning(11, 5)", x.setTurning(11, 5), 0);
        Check.due("getTurning(11)", x.getTurning(11), 5);
        Check.argument("3001", x, () -> x.setTurning(0, 3001));
        Check.argument("-3001", x, () -> x.setTurning(0, -3001));
        Check.index("belt -1", x, () -> x.setTurning(-1, 0));
        Check.index("belt 12", x, () -> x.setTurning(12, 0));
        Check.index("belt before number", x, () -> x.setTurning(12, 3001));
        Check.index("get belt -1", x, () -> x.getTurning(-1));
        Check.index("get belt 12", x, () -> x.getTurning(12));
        x.turn(3);
        Check.due("without a drag nothing is lost", x.getTurning(0), -3000);
        Check.due("nor got", x.getDeep(), 0);
        Check.yes("sound", x.isSound());
    }

    private static void wind() {
        Bandworld x = new Bandworld();
        for (int belt = 0; belt < 12; belt++) {
            x.setTurning(belt, 1439);
            Check.due("wind " + belt, x.getWind(belt), 1439 / WIDTHS[belt]);
            x.setTurning(belt, -1439);
            Check.due("wind back " + belt, x.getWind(belt), -(1439 / WIDTHS[belt]));
            x.setTurning(belt, WIDTHS[belt] - 1);
            Check.due("less than the width " + belt, x.getWind(belt), 0);
            x.setTurning(belt, WIDTHS[belt]);
            Check.due("the width " + belt, x.getWind(belt), 1);
        }
        Check.index("wind -1", x, () -> x.getWind(-1));
        Check.index("wind 12", x, () -> x.getWind(12));
    }

    private static void shear() {
        Bandworld x = new Bandworld();
        x.setTurning(0, 200);
        x.setTurning(1, -120);
        x.setTurning(10, 400);
        x.setTurning(11, 6);
        // Winds: 100, -30, and 100, 3.
        Check.due("shear 0 takes the belt itself", x.getShear(0), 130);
        Check.due("shear 1", x.getShear(1), 100);
        Check.due("shear 2", x.getShear(2), 30);
        Check.due("shear 3", x.getShear(3), 0);
        Check.due("shear 9", x.getShear(9), 100);
        Check.due("shear 10", x.getShear(10), 3);
        Check.due("shear 11 takes the belt itself", x.getShear(11), 97);
        Check.index("shear -1", x, () -> x.getShear(-1));
        Check.index("shear 12", x, () -> x.getShear(12));
    }

    private static void stirring() {
        Bandworld x = new Bandworld();
        Check.due("stir to the south", x.stir(3, 4, 1), 1);
        Check.due("it is lost there", x.getTurning(3), -1);
        Check.due("stir to the north", x.stir(4, 3, 3000), 2999);
        Check.due("lost there too", x.getTurning(4), -2999);
        Check.due("beyond what can be told", x.stir(4, 3, 3000), 5999);
        Check.due("so on the other side", x.getTurning(4), -5999);
        Check.due("at the south end", x.stir(10, 11, 7), 7);
        Check.index("from -1", x, () -> x.stir(-1, 0, 1));
        Check.index("from 12", x, () -> x.stir(12, 11, 1));
        Check.index("to -1", x, () -> x.stir(0, -1, 1));
        Check.index("to 12", x, () -> x.stir(11, 12, 1));
        Check.index("belt before number", x, () -> x.stir(11, 12, 0));
        Check.index("belt before neighbours", x, () -> x.stir(0, 12, 1));
        Check.argument("no neighbours 0 and 2", x, () -> x.stir(0, 2, 1));
        Check.argument("no neighbour of itself", x, () -> x.stir(5, 5, 1));
        Check.argument("the ends are none", x, () -> x.stir(0, 11, 1));
        Check.argument("0", x, () -> x.stir(0, 1, 0));
        Check.argument("3001", x, () -> x.stir(0, 1, 3001));
        Check.argument("-1", x, () -> x.stir(1, 0, -1));
        Check.yes("sound", x.isSound());
    }

    private static void drag() {
        Bandworld x = new Bandworld();
        Check.argument("setDrag(-1)", x, () -> x.setDrag(-1));
        Check.argument("setDrag(51)", x, () -> x.setDrag(51));
        Check.due("setDrag(50)", x.setDrag(50), 0);
        Check.due("setDrag(7)", x.setDrag(7), 50);
        x.setTurning(5, 100);
        x.setTurning(6, -200);
        x.setTurning(0, 6);
        x.turn(1);
        Check.due("a seventh of 100, cut", x.getTurning(5), 86);
        Check.due("a seventh of -200, cut", x.getTurning(6), -172);
        Check.due("a seventh of 6 is nothing", x.getTurning(0), 6);
        Check.due("the deep", x.getDeep(), 14 - 28);
        Check.yes("sound", x.isSound());
        Check.due("setDrag(1)", x.setDrag(1), 7);
        x.turn(1);
        Check.due("a drag of 1 takes all", x.getTurning(5), 0);
        Check.due("of each belt", x.getTurning(6), 0);
        Check.due("the deep has all", x.getDeep(), 100 - 200 + 6);
        Check.due("setDrag(0)", x.setDrag(0), 1);
        x.setTurning(0, 3000);
        x.turn(1);
        Check.due("no drag again", x.getTurning(0), 3000);
        Check.yes("sound", x.isSound());
    }
}
