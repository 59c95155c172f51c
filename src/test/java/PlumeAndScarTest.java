/** Promises 26 to 30: plumes, strikes, scars and turns. */
public final class PlumeAndScarTest {
    public static void main(String[] args) {
        plumes();
        plumesRefused();
        strikes();
        scarsWiden();
        scarsByWidth();
        turns();
        Check.end();
    }

    private static void plumes() {
        Bandworld x = new Bandworld();
        x.setTemperature(9, 299);
        Check.unsupported("199 warmer", x, () -> x.burst(4, 100));
        x.setTemperature(9, 300);
        x.setVapour(9, 0, 5);
        x.setVapour(9, 1, 20000);
        x.setVapour(3, 2, 7);
        Check.due("200 warmer", x.burst(4, 100), 0);
        Check.due("half of 5, cut, goes", x.getVapour(9, 0), 3);
        Check.due("to the level 3", x.getVapour(3, 0), 2);
        Check.due("half of 20000 goes", x.getVapour(9, 1), 10000);
        Check.due("half of 20000 comes", x.getVapour(3, 1), 10000);
        Check.due("of nothing nothing", x.getVapour(3, 2), 7);
        Check.due("the storm's size", x.getSize(0), 60);
        Check.due("the storm's longitude", x.getLongitude(0), 100);
        Check.due("the storm's age", x.getAge(0), 0);
        Check.due("no degrees go", x.getTemperature(9), 300);
        Check.due("a plume", x.happening(0), 'p');
        Check.due("by its storm", x.happenedTo(0), 0);
        Check.due("the storm has no name", x.nameStorm(0, 'P'), '-');
        Check.yes("sound", x.isSound());
        x.setTurning(4, 90);
        x.addStorm(3, 0, 10);
        Check.due("another one", x.burst(11, 3599), 2);
        Check.due("noted by its storm", x.happenedTo(1), 2);
        x.turn(1);
        Check.due("it is in the belt", x.getLongitude(0), 110);
    }

    private static void plumesRefused() {
        Bandworld x = new Bandworld();
        Check.index("belt -1", x, () -> x.burst(-1, 0));
        Check.index("belt 12", x, () -> x.burst(12, 0));
        Check.index("belt before number", x, () -> x.burst(12, -1));
        Check.argument("longitude -1", x, () -> x.burst(0, -1));
        Check.argument("longitude 3600", x, () -> x.burst(0, 3600));
        Check.unsupported("a new one is not warm enough", x, () -> x.burst(0, 0));
        for (int storm = 0; storm < 12; storm++) {
            x.addStorm(storm, 0, 10);
        }
        Check.unsupported("warmth before room", x, () -> x.burst(0, 0));
        x.setTemperature(9, 999);
        x.setVapour(9, 0, 1000);
        Check.state("no room", x, () -> x.burst(0, 0));
        Check.argument("number before room", x, () -> x.burst(0, 3600));
        Check.index("belt before room", x, () -> x.burst(12, 0));
    }

    private static void strikes() {
        Bandworld x = new Bandworld();
        Check.index("no scar yet", x, () -> x.getWidth(0));
        Check.index("no scar yet, turns", x, () -> x.scarTurns(0));
        Check.due("strike(0, 0, 1)", x.strike(0, 0, 1), 0);
        Check.due("strike(11, 3599, 100)", x.strike(11, 3599, 100), 1);
        Check.due("getWidth(0)", x.getWidth(0), 1);
        Check.due("getWidth(1)", x.getWidth(1), 100);
        Check.due("scarTurns(1)", x.scarTurns(1), 0);
        Check.due("a strike", x.happening(1), 'k');
        Check.due("by its scar", x.happenedTo(1), 1);
        Check.index("belt -1", x, () -> x.strike(-1, 0, 1));
        Check.index("belt 12", x, () -> x.strike(12, 0, 1));
        Check.argument("longitude -1", x, () -> x.strike(0, -1, 1));
        Check.argument("longitude 3600", x, () -> x.strike(0, 3600, 1));
        Check.argument("width 0", x, () -> x.strike(0, 0, 0));
        Check.argument("width 101", x, () -> x.strike(0, 0, 101));
        Check.index("belt before number", x, () -> x.strike(12, 3600, 0));
        for (int scar = 2; scar < 8; scar++) {
            Check.due("scar " + scar, x.strike(5, 5, 5), scar);
        }
        Check.state("a 9th", x, () -> x.strike(0, 0, 1));
        Check.argument("number before room", x, () -> x.strike(0, 0, 101));
        Check.index("belt before room", x, () -> x.strike(-1, 0, 1));
        for (int bad : new int[] {-1, 8, Integer.MIN_VALUE, Integer.MAX_VALUE}) {
            Check.index("getWidth", x, () -> x.getWidth(bad));
            Check.index("scarTurns", x, () -> x.scarTurns(bad));
        }
    }

    private static void scarsWiden() {
        Bandworld x = new Bandworld();
        x.strike(5, 0, 10);
        x.strike(8, 0, 10);
        x.turn(1);
        Check.due("wider by 1", x.getWidth(0), 11);
        x.setTurning(4, 171);
        x.turn(1);
        Check.due("with a shear of 19 by 1", x.getWidth(0), 12);
        x.setTurning(4, 180);
        x.turn(1);
        Check.due("with a shear of 20 by 2", x.getWidth(0), 14);
        x.setTurning(4, 3000);
        x.turn(2);
        Check.due("with a shear of 333 by 17", x.getWidth(0), 48);
        Check.due("elsewhere by 1", x.getWidth(1), 15);
        x.setDrag(1);
        x.turn(1);
        Check.due("drag comes before scars", x.getWidth(0), 49);
    }

    private static void scarsByWidth() {
        Bandworld x = new Bandworld();
        x.strike(5, 0, 10);
        x.turn(7);
        Check.due("7 turns by 1", x.scarTurns(0), 7);
        x.setTurning(4, 180);
        Check.due("7 by 2, cut", x.scarTurns(0), 3);
        x.setTurning(4, 3000);
        Check.due("7 by 17", x.scarTurns(0), 0);
        x.turn(1);
        Check.due("24 by 17", x.scarTurns(0), 1);
        x.setTurning(4, 0);
        Check.due("24 by 1", x.scarTurns(0), 24);
    }

    private static void turns() {
        Bandworld x = new Bandworld();
        Check.argument("turn(0)", x, () -> x.turn(0));
        Check.argument("turn(201)", x, () -> x.turn(201));
        Check.argument("turn(-1)", x, () -> x.turn(-1));
        Check.argument("least int", x, () -> x.turn(Integer.MIN_VALUE));
        Check.due("turn(1)", x.turn(1), 1);
        Check.due("turn(200)", x.turn(200), 201);
        x.addStorm(0, 0, 10);
        x.turn(200);
        Check.due("each of them goes by", x.getAge(0), 200);
        Check.due("in all", x.turn(1), 402);
        Check.yes("sound", x.isSound());
    }
}
